def odI (Z : mZ) (sp : Nat) (c set : Int32) : Nat → Nat → mD → Int32 → mD × Int32
  | 0, _, e, w => (e, w)
  | n + 1, i, e, w => if set >>> (nI i &&& 31) &&& 1 = 1 then odI Z sp c set n (i + 1) (tA e (nA Z sp) (upd (gA e (nA Z sp)) i (9 - gA e (nA Z sp) i))) (w * c) else odI Z sp c set n (i + 1) e (w * (10 - c))
def odT (Z : mZ) (sp : Nat) (e : mD) : Int32 × Int32 × Int32 × Int32 := beT (gI e 98 sp) (gA e (oA Z sp)) (gA e (nA Z sp)) 0
def odL (Z : mZ) (sc sp sr m : Nat) (c us : Int32) : Nat → Nat → mD → Int32 → mD × Int32
  | 0, _, e, a => (e, a)
  | n + 1, j, e, a => odL Z sc sp sr m c us n (j + 1) (seT (odI Z sp c (nI j) m 0 (scBz Z e sp sc) 1).1 sr (odT Z sp (odI Z sp c (nI j) m 0 (scBz Z e sp sc) 1).1)) (if (odT Z sp (odI Z sp c (nI j) m 0 (scBz Z e sp sc) 1).1).1 = us then a else a + (odI Z sp c (nI j) m 0 (scBz Z e sp sc) 1).2)
def odQ (Z : mZ) (d : mD) (sc sp sr m : Nat) (c : Int32) : mD × Int32 := odL Z sc sp sr m c (beT (gI d 98 sc) (gA d (oA Z sc)) (gA d (nA Z sc)) 0).1 (2 ^ m) 0 (seT d sr (beT (gI d 98 sc) (gA d (oA Z sc)) (gA d (nA Z sc)) 0)) 0
theorem pow_sh {m : Nat} (h : m ≤ 4) : (1 : Int32) <<< (nI m &&& 31) = nI (2 ^ m) := by
  match m, h with
  | 0, _ | 1, _ | 2, _ | 3, _ | 4, _ => decide +kernel
theorem pow_le {m : Nat} (h : m ≤ 4) : 2 ^ m ≤ 16 := by
  match m, h with
  | 0, _ | 1, _ | 2, _ | 3, _ | 4, _ => decide
def wN (n : Int32) : Nat := if 4 < n then 4 else tN n
theorem wN_eq {n : Int32} (h : wthn n 0 6) : mMin n 4 = nI (wN n) ∧ wN n ≤ 4 := by
  have h1 := wth_nI 6 (by decide) h
  unfold mMin wN
  by_cases h2 : 4 < n
  · rw [if_pos h2, if_pos h2]; exact ⟨rfl, by decide⟩
  · rw [if_neg h2, if_neg h2]
    refine ⟨h1.1, ?_⟩
    rw [h1.1] at h2
    have h3 := (nI_leI (b := 4) (by omega) (by decide)).mp (Int32.not_lt.mp h2)
    exact h3
def wroA (Z : mZ) (d : mD) (sc sp sr : Nat) (n c : Int32) : Int32 := (odQ Z d sc sp sr (wN n) c).2
def wroG (Z : mZ) (d : mD) (sc sp sr : Nat) (n c : Int32) : Int32 := gcdI 64 (wroA Z d sc sp sr n c) (powI 10 (wN n) 1)
abbrev wroP (n c w : Int32) : Prop := (wthn n 0 6 ∧ wthn c 0 10) ∧ wthn w 0 1
def wroR (Z : mZ) (d : mD) (sc sp sr : Nat) (n c w : Int32) : Int32 := if wroP n c w then (if 1 ≤ wroG Z d sc sp sr n c then (if w = 0 then wroA Z d sc sp sr n c else powI 10 (wN n) 1) / wroG Z d sc sp sr n c else -1000001) else -1000001
def wroD (Z : mZ) (d : mD) (sc sp sr : Nat) (n c w : Int32) : mD := if wroP n c w then (odQ Z d sc sp sr (wN n) c).1 else d
theorem refI_0 {held lane size asl i n : Int32} (h : refI held lane size asl i n = 0) : ¬ held = 0 ∧ lane = asl ∧ spn size i n := by
  unfold refI at h
  split at h
  · exact absurd h (by decide)
  · next h1 =>
    split at h
    · next h2 =>
      split at h
      · next h3 => exact ⟨h1, h2, h3⟩
      · exact absurd h (by decide)
    · exact absurd h (by decide)
theorem spn_nI {z : Nat} {i n : Int32} (hz : z ≤ 24) (h : spn (nI z) i n) : i = nI (tN i) ∧ n = nI (tN n) ∧ tN i + tN n ≤ z := by
  obtain ⟨h1, h2, h3, h4⟩ := h
  obtain ⟨a, ha, rfl⟩ := nI_of (Int32.not_lt.mpr h1)
  obtain ⟨b, hb, rfl⟩ := nI_of (Int32.not_lt.mpr h2)
  have ea : tN (nI a) = a := nI_clamp ha
  have eb : tN (nI b) = b := nI_clamp hb
  rw [ea, eb]
  have h5 := (nI_leI ha (by omega)).mp h3
  rw [pk_sub h5] at h4
  have h6 := (nI_leI hb (by omega)).mp h4
  exact ⟨rfl, rfl, by omega⟩
def kdI (Z : mZ) (sp sr ia j : Nat) : Nat → Nat → mD → Int32 → mD × Int32
  | 0, _, e, a => (e, a)
  | n + 1, b, e, a => if a = 0 then (e, a) else kdI Z sp sr ia j n (b + 1) (seT e sr (beT (gI e 98 sp) (gA e (oA Z sp)) (gA e (nA Z sp)) (nI b))) (if lg_cmp (gJ e ia (j + b)) (beT (gI e 98 sp) (gA e (oA Z sp)) (gA e (nA Z sp)) (nI b)).1.toInt64 = 0 then 1 else 0)
def kdL (Z : mZ) (sp sr ia j m : Nat) : Nat → Nat → mD → Int32 → mD × Int32
  | 0, _, e, s => (e, s)
  | n + 1, k, e, s => kdL Z sp sr ia j m n (k + 1) (kdI Z sp sr ia j m 0 (sI e 98 sp (nI k)) 1).1 (if (kdI Z sp sr ia j m 0 (sI e 98 sp (nI k)) 1).2 = 0 then s else s ||| (1 : Int32) <<< (nI k &&& 31))
def kdQ (Z : mZ) (d : mD) (sc sp sr ia j m : Nat) : mD × Int32 := kdL Z sp sr ia j m 5 0 (scBz Z d sp sc) 0
abbrev fouP (v ln n : Int32) : Prop := (wthn v 0 3 ∧ wthn ln 0 3) ∧ wthn n 1 6
def rfS (d : mD) (sh : Nat) (v ln i n : Int32) : Int32 := refI (gI d 161 (psO d sh (tN v))) (gI d 162 (psO d sh (tN v))) (gI d 163 (psO d sh (tN v))) ln i n
def fouQ (Z : mZ) (d : mD) (sh sc sp sr : Nat) (v i n : Int32) : mD × Int32 := kdQ Z d sc sp sr (iA Z (psO d sh (tN v))) (tN i) (tN n)
def fouR (Z : mZ) (d : mD) (sh sc sp sr : Nat) (v ln i n : Int32) : Int32 := if fouP v ln n then (if rfS d sh v ln i n = 0 then (fouQ Z d sh sc sp sr v i n).2 else rfS d sh v ln i n) else -1000001
def fouD (Z : mZ) (d : mD) (sh sc sp sr : Nat) (v ln i n : Int32) : mD := if fouP v ln n ∧ rfS d sh v ln i n = 0 then (fouQ Z d sh sc sp sr v i n).1 else d
def flL (Z : mZ) (sc sr ia h j : Nat) : Nat → Nat → mD → mD
  | 0, _, e => e
  | n + 1, b, e => flL Z sc sr ia h j n (b + 1) (tJ (seT e sr (beT (gI e 98 sc) (gA e (oA Z sc)) (gA e (nA Z sc)) (nI b))) ia (vp_updL (gJ e ia) (j + b) (cutL (gI e 162 h) (beT (gI e 98 sc) (gA e (oA Z sc)) (gA e (nA Z sc)) (nI b)).1.toInt64)))
abbrev filP (n v ln : Int32) : Prop := (wthn n 1 6 ∧ wthn v 0 3) ∧ wthn ln 0 3
def filR (d : mD) (sh : Nat) (n v ln i : Int32) : Int32 := if filP n v ln then (if rfS d sh v ln i n = 0 then n else rfS d sh v ln i n) else -1000001
def filE (Z : mZ) (d : mD) (sh sc sr : Nat) (n v i : Int32) : mD := flL Z sc sr (iA Z (psO d sh (tN v))) (psO d sh (tN v)) (tN i) (tN n) 0 d
def filD (Z : mZ) (d : mD) (sh sc sr : Nat) (n v ln i : Int32) : mD := if filP n v ln ∧ rfS d sh v ln i n = 0 then filE Z d sh sc sr n v i else d
abbrev sheP (v ln n : Int32) : Prop := (wthn v 0 3 ∧ wthn ln 0 3) ∧ n ≤ 24
def sheR (v ln n : Int32) : Int32 := if sheP v ln n then (if 0 ≤ n then n else -1000014) else -1000001
def sheD (Z : mZ) (d : mD) (sh : Nat) (v ln n : Int32) : mD := if sheP v ln n ∧ 0 ≤ n then shB d (psO d sh (tN v)) (iA Z (psO d sh (tN v))) ln n else d
def droR (d : mD) (sh : Nat) (v : Int32) : Int32 := if wthn v 0 3 then (if gI d 161 (psO d sh (tN v)) = 0 then -1000011 else gI d 163 (psO d sh (tN v))) else -1000001
def droD (d : mD) (sh : Nat) (v : Int32) : mD := if wthn v 0 3 ∧ ¬ gI d 161 (psO d sh (tN v)) = 0 then sI d 161 (psO d sh (tN v)) 0 else d
def iteR (d : mD) (sh : Nat) (v ln i : Int32) : Int32 := if wthn v 0 3 ∧ wthn ln 0 3 then (if rfS d sh v ln i 1 = 0 then 1 else rfS d sh v ln i 1) else -1000001
def iteD (Z : mZ) (d : mD) (sh : Nat) (v ln i : Int32) (y : Int64) : mD := if (wthn v 0 3 ∧ wthn ln 0 3) ∧ rfS d sh v ln i 1 = 0 then tJ d (iA Z (psO d sh (tN v))) (vp_updL (gJ d (iA Z (psO d sh (tN v)))) (tN i) (cutL (gI d 162 (psO d sh (tN v))) y)) else d
abbrev copB (d : mD) (sh : Nat) (u v : Int32) : Prop := gI d 161 (psO d sh (tN u)) = 0 ∨ gI d 161 (psO d sh (tN v)) = 0
abbrev copS (d : mD) (sh : Nat) (u i v j n : Int32) : Prop := spn (gI d 163 (psO d sh (tN u))) i n ∧ spn (gI d 163 (psO d sh (tN v))) j n
def copR (d : mD) (sh : Nat) (u i v j n : Int32) : Int32 := if wthn u 0 3 ∧ wthn v 0 3 then (if copB d sh u v then -1000011 else if gI d 162 (psO d sh (tN u)) = gI d 162 (psO d sh (tN v)) then (if copS d sh u i v j n then n else -1000013) else -1000012) else -1000001
def copD (Z : mZ) (d : mD) (sh : Nat) (u i v j n : Int32) : mD := if (wthn u 0 3 ∧ wthn v 0 3) ∧ ¬ copB d sh u v ∧ gI d 162 (psO d sh (tN u)) = gI d 162 (psO d sh (tN v)) ∧ copS d sh u i v j n then tJ d (iA Z (psO d sh (tN v))) (va_cpy (gJ d (iA Z (psO d sh (tN u)))) (gJ d (iA Z (psO d sh (tN v)))) (tN i) (tN j) (tN n)) else d
theorem c_X8_oddsAbove {l : Launch} {G : mG} {Z : mZ} {d : mD} {x st kp tp sr ha fi sp sh sc pa kc kq le dt mo ne : Nat} {m : Nat} {c : Int32} (hx : clS Z x st kp tp sr ha fi sp sh sc pa kc kq le dt mo ne) (hm : m ≤ 4) : CtI l G yX8_oddsAbove cX8_oddsAbove 9 .int 5 128 [.ref x, .int (nI m), .int c] Z d (odQ Z d sc sp sr m c).2 (odQ Z d sc sp sr m c).1 := by
  obtain ⟨p, q, hs⟩ := hx.scV
  obtain ⟨p2, q2, hs2⟩ := hx.spv
  have hpw := pow_sh hm
  have hpl := pow_le hm
  refine enterI RX8 6 [some (.ref x), some (.int (nI m)), some (.int c), none, none, none, none, none, none] (by decide) rfl (rfl) rfl rfl (fun X hR => ?_)
  refine al0 (pc := 0) dX8_oddsAbove_0 ?_
  refine gf_X8_33 (pc := 1) hx.o8 hx.r4 dX8_oddsAbove_1 ?_
  refine al0 (pc := 4) dX8_oddsAbove_4 ?_
  refine gf_X8_10 (pc := 5) hx.o8 hx.r0 dX8_oddsAbove_5 ?_
  refine gf_X8_82 (pc := 8) hx.st.1 hx.st.2.1 dX8_oddsAbove_8 ?_
  refine g_iconst (pc := 11) dX8_oddsAbove_11 kc0 ?_
  refine cl_X8_174 (pc := 12) (c_X4_best hx.sr hs) hx.sr (by decide) ⟨Nat.zero_le _, Nat.zero_le _⟩ (Nat.le_of_ble_eq_true rfl) dX8_oddsAbove_12 ?_
  refine al0 (pc := 15) dX8_oddsAbove_15 ?_
  refine gf_X8_33 (pc := 16) hx.o8 hx.r4 dX8_oddsAbove_16 ?_
  refine gf_X8_134 (pc := 19) hx.sr dX8_oddsAbove_19 ?_
  rw [gI_seT0]
  refine is3 (pc := 22) dX8_oddsAbove_22 rfl ?_
  refine g_iconst (pc := 23) dX8_oddsAbove_23 kc0 ?_
  refine is4 (pc := 24) dX8_oddsAbove_24 rfl ?_
  refine g_iconst (pc := 26) dX8_oddsAbove_26 kc0 ?_
  refine is5 (pc := 27) dX8_oddsAbove_27 rfl ?_
  have L29 : ∀ (n i : Nat) (e : mD) (ab : Int32), i + n = (2 ^ m) → (odL Z sc sp sr m c (beT (gI d 98 sc) (gA d (oA Z sc)) (gA d (nA Z sc)) 0).1 n i e ab = odQ Z d sc sp sr m c) → mGo l G (mRm 5 128) X RX8 cX8_oddsAbove 9 0 0 Z 29 [some (.ref x), some (.int (nI m)), some (.int c), some (.int (beT (gI d 98 sc) (gA d (oA Z sc)) (gA d (nA Z sc)) 0).1), some (.int ab), some (.int (nI i)), none, none, none] [] e := by
    intro n; induction n with
    | zero =>
      intro i e ab hin29 hF
      refine il5 (pc := 29) dX8_oddsAbove_29 ?_
      refine g_iconst (pc := 31) dX8_oddsAbove_31 kc1 ?_
      refine il1 (pc := 32) dX8_oddsAbove_32 ?_
      refine g_ishl (pc := 33) dX8_oddsAbove_33 ?_
      rw [hpw]
      refine g_icmpge 175 (pc := 34) dX8_oddsAbove_34 (by decide) (fun c34 => ?_) (fun c34 => absurd (nI_le (by omega) (by omega)) c34)
      refine il4 (pc := 175) dX8_oddsAbove_175 ?_
      exact retI (pc := 177) hR dX8_oddsAbove_177 (by rw [← hF]; rfl) (by rw [← hF]; rfl)
    | succ n ih29 =>
      intro i e ab hin29 hF
      refine il5 (pc := 29) dX8_oddsAbove_29 ?_
      refine g_iconst (pc := 31) dX8_oddsAbove_31 kc1 ?_
      refine il1 (pc := 32) dX8_oddsAbove_32 ?_
      refine g_ishl (pc := 33) dX8_oddsAbove_33 ?_
      rw [hpw]
      refine g_icmpge 175 (pc := 34) dX8_oddsAbove_34 (by decide) (fun c34 => absurd c34 (nI_ge (by omega) (by omega))) (fun c34 => ?_)
      refine al0 (pc := 37) dX8_oddsAbove_37 ?_
      refine gf_X8_54 (pc := 38) hx.o8 hx.r7 dX8_oddsAbove_38 ?_
      refine al0 (pc := 41) dX8_oddsAbove_41 ?_
      refine gf_X8_10 (pc := 42) hx.o8 hx.r0 dX8_oddsAbove_42 ?_
      refine gf_X8_82 (pc := 45) hx.st.1 hx.st.2.1 dX8_oddsAbove_45 ?_
      refine cl_X8_274 (pc := 48) (cz_X3_become hx.spv hx.scV) hs2.1 (by decide) ⟨Nat.zero_le _, Nat.zero_le _⟩ (Nat.le_of_ble_eq_true rfl) dX8_oddsAbove_48 ?_
      refine g_iconst (pc := 51) dX8_oddsAbove_51 kc1 ?_
      refine is6 (pc := 52) dX8_oddsAbove_52 rfl ?_
      refine g_iconst (pc := 54) dX8_oddsAbove_54 kc0 ?_
      refine is7 (pc := 55) dX8_oddsAbove_55 rfl ?_
      have L57 : ∀ (n2 i2 : Nat) (e2 : mD) (w2 : Int32), i2 + n2 = m → (odI Z sp c (nI i)  n2 i2 e2 w2 = odI Z sp c (nI i)  m 0 (scBz Z e sp sc) 1) → mGo l G (mRm 5 128) X RX8 cX8_oddsAbove 9 0 0 Z 57 [some (.ref x), some (.int (nI m)), some (.int c), some (.int (beT (gI d 98 sc) (gA d (oA Z sc)) (gA d (nA Z sc)) 0).1), some (.int ab), some (.int (nI i)), some (.int w2), some (.int (nI i2)), none] [] e2 := by
        intro n2; induction n2 with
        | zero =>
          intro i2 e2 w2 hin57 hG
          have g1 : e2 = (odI Z sp c (nI i)  m 0 (scBz Z e sp sc) 1).1 := by rw [← hG]; rfl
          have g2 : w2 = (odI Z sp c (nI i)  m 0 (scBz Z e sp sc) 1).2 := by rw [← hG]; rfl
          subst g1
          subst g2
          refine il7 (pc := 57) dX8_oddsAbove_57 ?_
          refine il1 (pc := 59) dX8_oddsAbove_59 ?_
          refine g_icmpge 139 (pc := 60) dX8_oddsAbove_60 (by decide) (fun c60 => ?_) (fun c60 => absurd (nI_le (by omega) (by omega)) c60)
          refine al0 (pc := 139) dX8_oddsAbove_139 ?_
          refine gf_X8_33 (pc := 140) hx.o8 hx.r4 dX8_oddsAbove_140 ?_
          refine al0 (pc := 143) dX8_oddsAbove_143 ?_
          refine gf_X8_54 (pc := 144) hx.o8 hx.r7 dX8_oddsAbove_144 ?_
          refine g_iconst (pc := 147) dX8_oddsAbove_147 kc0 ?_
          refine cl_X8_174 (pc := 148) (c_X4_best hx.sr hs2) hx.sr (by decide) ⟨Nat.zero_le _, Nat.zero_le _⟩ (Nat.le_of_ble_eq_true rfl) dX8_oddsAbove_148 ?_
          refine al0 (pc := 151) dX8_oddsAbove_151 ?_
          refine gf_X8_33 (pc := 152) hx.o8 hx.r4 dX8_oddsAbove_152 ?_
          refine gf_X8_134 (pc := 155) hx.sr dX8_oddsAbove_155 ?_
          rw [gI_seT0]
          refine il3 (pc := 158) dX8_oddsAbove_158 ?_
          refine g_icmpeq 169 (pc := 159) dX8_oddsAbove_159 (by decide) (fun c159 => ?_) (fun c159 => ?_)
          · skip
            refine ic5 (pc := 169) dX8_oddsAbove_169 kc1 rfl ?_
            refine g_goto 29 (pc := 172) dX8_oddsAbove_172 (by decide) ?_
            rw [nI_1]
            refine dr6 ?_
            refine dr7 ?_
            exact ih29 (i + 1) _ _ (by omega) (by rw [← hF, odL, if_pos (show ((odT Z sp (odI Z sp c (nI i) m 0 (scBz Z e sp sc) 1).1).1 = (beT (gI d 98 sc) (gA d (oA Z sc)) (gA d (nA Z sc)) 0).1) from c159)]; rfl)
          · skip
            refine il4 (pc := 162) dX8_oddsAbove_162 ?_
            refine il6 (pc := 164) dX8_oddsAbove_164 ?_
            refine g_iadd (pc := 166) dX8_oddsAbove_166 ?_
            refine is4 (pc := 167) dX8_oddsAbove_167 rfl ?_
            refine ic5 (pc := 169) dX8_oddsAbove_169 kc1 rfl ?_
            refine g_goto 29 (pc := 172) dX8_oddsAbove_172 (by decide) ?_
            rw [nI_1]
            refine dr6 ?_
            refine dr7 ?_
            exact ih29 (i + 1) _ _ (by omega) (by rw [← hF, odL, if_neg (show ¬ ((odT Z sp (odI Z sp c (nI i) m 0 (scBz Z e sp sc) 1).1).1 = (beT (gI d 98 sc) (gA d (oA Z sc)) (gA d (nA Z sc)) 0).1) from c159)]; rfl)
        | succ n2 ih57 =>
          intro i2 e2 w2 hin57 hG
          refine il7 (pc := 57) dX8_oddsAbove_57 ?_
          refine il1 (pc := 59) dX8_oddsAbove_59 ?_
          refine g_icmpge 139 (pc := 60) dX8_oddsAbove_60 (by decide) (fun c60 => absurd c60 (nI_ge (by omega) (by omega))) (fun c60 => ?_)
          refine il5 (pc := 63) dX8_oddsAbove_63 ?_
          refine il7 (pc := 65) dX8_oddsAbove_65 ?_
          refine g_ishr (pc := 67) dX8_oddsAbove_67 ?_
          refine g_iconst (pc := 68) dX8_oddsAbove_68 kc1 ?_
          refine g_iand (pc := 69) dX8_oddsAbove_69 ?_
          refine g_iconst (pc := 70) dX8_oddsAbove_70 kc1 ?_
          refine g_icmpne 78 (pc := 71) dX8_oddsAbove_71 (by decide) (fun c71 => ?_) (fun c71 => ?_)
          · skip
            refine g_iconst (pc := 78) dX8_oddsAbove_78 kc0 ?_
            refine is8 (pc := 79) dX8_oddsAbove_79 rfl ?_
            refine il6 (pc := 81) dX8_oddsAbove_81 ?_
            refine il8 (pc := 83) dX8_oddsAbove_83 ?_
            refine g_ifeq 92 (pc := 85) dX8_oddsAbove_85 (by decide) (fun c85 => ?_) (fun c85 => absurd (by decide) c85)
            refine g_bipush (pc := 92) dX8_oddsAbove_92 kb10 ?_
            refine il2 (pc := 94) dX8_oddsAbove_94 ?_
            refine g_isub (pc := 95) dX8_oddsAbove_95 ?_
            refine g_imul (pc := 96) dX8_oddsAbove_96 ?_
            refine is6 (pc := 97) dX8_oddsAbove_97 rfl ?_
            refine il8 (pc := 99) dX8_oddsAbove_99 ?_
            refine g_ifeq 133 (pc := 101) dX8_oddsAbove_101 (by decide) (fun c101 => ?_) (fun c101 => absurd (by decide) c101)
            refine ic7 (pc := 133) dX8_oddsAbove_133 kc1 rfl ?_
            refine g_goto 57 (pc := 136) dX8_oddsAbove_136 (by decide) ?_
            rw [nI_1]
            refine dr8 ?_
            exact ih57 (i2 + 1) _ _ (by omega) (by rw [← hG, odI, if_neg c71])
          · skip
            refine g_iconst (pc := 74) dX8_oddsAbove_74 kc1 ?_
            refine g_goto 79 (pc := 75) dX8_oddsAbove_75 (by decide) ?_
            refine is8 (pc := 79) dX8_oddsAbove_79 rfl ?_
            refine il6 (pc := 81) dX8_oddsAbove_81 ?_
            refine il8 (pc := 83) dX8_oddsAbove_83 ?_
            refine g_ifeq 92 (pc := 85) dX8_oddsAbove_85 (by decide) (fun c85 => absurd c85 (by decide)) (fun c85 => ?_)
            refine il2 (pc := 88) dX8_oddsAbove_88 ?_
            refine g_goto 96 (pc := 89) dX8_oddsAbove_89 (by decide) ?_
            refine g_imul (pc := 96) dX8_oddsAbove_96 ?_
            refine is6 (pc := 97) dX8_oddsAbove_97 rfl ?_
            refine il8 (pc := 99) dX8_oddsAbove_99 ?_
            refine g_ifeq 133 (pc := 101) dX8_oddsAbove_101 (by decide) (fun c101 => absurd c101 (by decide)) (fun c101 => ?_)
            refine al0 (pc := 104) dX8_oddsAbove_104 ?_
            refine gf_X8_54 (pc := 105) hx.o8 hx.r7 dX8_oddsAbove_105 ?_
            refine gf_X8_99 (pc := 108) hs2.1 hs2.2.2.1 dX8_oddsAbove_108 ?_
            refine gf_X8_151 (pc := 111) hs2.2.2.2.2.1 hs2.2.2.2.2.2.1 dX8_oddsAbove_111 ?_
            refine il7 (pc := 114) dX8_oddsAbove_114 ?_
            refine g_bipush (pc := 116) dX8_oddsAbove_116 kb9 ?_
            refine al0 (pc := 118) dX8_oddsAbove_118 ?_
            refine gf_X8_54 (pc := 119) hx.o8 hx.r7 dX8_oddsAbove_119 ?_
            refine gf_X8_99 (pc := 122) hs2.1 hs2.2.2.1 dX8_oddsAbove_122 ?_
            refine gf_X8_151 (pc := 125) hs2.2.2.2.2.1 hs2.2.2.2.2.2.1 dX8_oddsAbove_125 ?_
            refine il7 (pc := 128) dX8_oddsAbove_128 ?_
            refine g_iald (pc := 130) i2 hs2.2.2.2.2.2.2 (by omega) (rfl) (by decide) dX8_oddsAbove_130 ?_
            refine g_isub (pc := 131) dX8_oddsAbove_131 ?_
            refine g_iast (pc := 132) i2 hs2.2.2.2.2.2.2 (by omega) (rfl) (by decide) dX8_oddsAbove_132 ?_
            refine ic7 (pc := 133) dX8_oddsAbove_133 kc1 rfl ?_
            refine g_goto 57 (pc := 136) dX8_oddsAbove_136 (by decide) ?_
            rw [nI_1]
            refine dr8 ?_
            exact ih57 (i2 + 1) _ _ (by omega) (by rw [← hG, odI, if_pos c71])
      exact L57 m 0 _ _ (by omega) rfl
  exact L29 (2 ^ m) 0 _ _ (by omega) rfl
theorem c_X8_wrong {l : Launch} {G : mG} {Z : mZ} {d : mD} {x st kp tp sr ha fi sp sh sc pa kc kq le dt mo ne : Nat} {n c w : Int32} (hx : clS Z x st kp tp sr ha fi sp sh sc pa kc kq le dt mo ne) : CtI l G yX8_wrong cX8_wrong 8 .int 6 156 [.ref x, .int n, .int c, .int w] Z d (wroR Z d sc sp sr n c w) (wroD Z d sc sp sr n c w) := by
  obtain ⟨p, q, hs⟩ := hx.scV
  obtain ⟨p2, q2, hs2⟩ := hx.spv
  refine enterI RX8 4 [some (.ref x), some (.int n), some (.int c), some (.int w), none, none, none, none] (by decide) rfl (rfl) rfl rfl (fun X hR => ?_)
  refine il1 (pc := 0) dX8_wrong_0 ?_
  refine g_iconst (pc := 1) dX8_wrong_1 kc0 ?_
  refine g_bipush (pc := 2) dX8_wrong_2 kb6 ?_
  refine cl_X8_105 (pc := 4) (c_X8_isWithin) (by decide) ⟨Nat.zero_le _, Nat.zero_le _⟩ (Nat.le_of_ble_eq_true rfl) dX8_wrong_4 ?_
  refine g_ifeq 29 (pc := 7) dX8_wrong_7 (by decide) (fun c7 => ?_) (fun c7 => ?_)
  · skip
    (try simp only [mB_eq0, Decidable.not_not] at c7)
    refine g_ldc (pc := 29) dX8_wrong_29 wk_X8_65 ?_
    exact retI (pc := 31) hR dX8_wrong_31 (by rw [wroR, if_neg]; intro h9; simp [h9] at *) (by rw [wroD, if_neg]; intro h9; simp [h9] at *)
  · skip
    (try simp only [mB_eq0, Decidable.not_not] at c7)
    refine il2 (pc := 10) dX8_wrong_10 ?_
    refine g_iconst (pc := 11) dX8_wrong_11 kc0 ?_
    refine g_bipush (pc := 12) dX8_wrong_12 kb10 ?_
    refine cl_X8_105 (pc := 14) (c_X8_isWithin) (by decide) ⟨Nat.zero_le _, Nat.zero_le _⟩ (Nat.le_of_ble_eq_true rfl) dX8_wrong_14 ?_
    refine g_ifeq 29 (pc := 17) dX8_wrong_17 (by decide) (fun c17 => ?_) (fun c17 => ?_)
    · skip
      (try simp only [mB_eq0, Decidable.not_not] at c17)
      refine g_ldc (pc := 29) dX8_wrong_29 wk_X8_65 ?_
      exact retI (pc := 31) hR dX8_wrong_31 (by rw [wroR, if_neg]; intro h9; simp [h9] at *) (by rw [wroD, if_neg]; intro h9; simp [h9] at *)
    · skip
      (try simp only [mB_eq0, Decidable.not_not] at c17)
      refine il3 (pc := 20) dX8_wrong_20 ?_
      refine g_iconst (pc := 21) dX8_wrong_21 kc0 ?_
      refine g_iconst (pc := 22) dX8_wrong_22 kc1 ?_
      refine cl_X8_105 (pc := 23) (c_X8_isWithin) (by decide) ⟨Nat.zero_le _, Nat.zero_le _⟩ (Nat.le_of_ble_eq_true rfl) dX8_wrong_23 ?_
      refine g_ifne 32 (pc := 26) dX8_wrong_26 (by decide) (fun c26 => ?_) (fun c26 => ?_)
      · skip
        (try simp only [mB_eq0, Decidable.not_not] at c26)
        refine il1 (pc := 32) dX8_wrong_32 ?_
        refine g_iconst (pc := 33) dX8_wrong_33 kc4 ?_
        have hw9 := wN_eq c7
        refine cl_X8_202 (pc := 34) (by decide) (Nat.le_of_ble_eq_true rfl) ⟨Nat.zero_le _, Nat.zero_le _⟩ dX8_wrong_34 ?_
        rw [hw9.1]
        refine is4 (pc := 37) dX8_wrong_37 rfl ?_
        refine al0 (pc := 39) dX8_wrong_39 ?_
        refine il4 (pc := 40) dX8_wrong_40 ?_
        refine il2 (pc := 42) dX8_wrong_42 ?_
        refine cl_X8_207 (pc := 43) (c_X8_oddsAbove hx hw9.2) hx.o8 (by decide) ⟨Nat.zero_le _, Nat.zero_le _⟩ (Nat.le_of_ble_eq_true rfl) dX8_wrong_43 ?_
        rw [← wroA]
        refine is5 (pc := 46) dX8_wrong_46 rfl ?_
        refine g_bipush (pc := 48) dX8_wrong_48 kb10 ?_
        refine il4 (pc := 50) dX8_wrong_50 ?_
        refine cl_X8_210 (pc := 52) (c_X8_power (b := 10) (t := wN n) (by have := hw9.2; omega)) (by decide) ⟨Nat.zero_le _, Nat.zero_le _⟩ (Nat.le_of_ble_eq_true rfl) dX8_wrong_52 ?_
        refine is6 (pc := 55) dX8_wrong_55 rfl ?_
        refine il5 (pc := 57) dX8_wrong_57 ?_
        refine il6 (pc := 59) dX8_wrong_59 ?_
        refine cl_X8_213 (pc := 61) (c_X8_commonDivisor) (by decide) ⟨Nat.zero_le _, Nat.zero_le _⟩ (Nat.le_of_ble_eq_true rfl) dX8_wrong_61 ?_
        rw [← wroG]
        refine is7 (pc := 64) dX8_wrong_64 rfl ?_
        refine il7 (pc := 66) dX8_wrong_66 ?_
        refine g_iconst (pc := 68) dX8_wrong_68 kc1 ?_
        refine g_icmpge 75 (pc := 69) dX8_wrong_69 (by decide) (fun c69 => ?_) (fun c69 => ?_)
        · skip
          refine il3 (pc := 75) dX8_wrong_75 ?_
          refine g_ifne 84 (pc := 76) dX8_wrong_76 (by decide) (fun c76 => ?_) (fun c76 => ?_)
          · skip
            refine il6 (pc := 84) dX8_wrong_84 ?_
            refine il7 (pc := 86) dX8_wrong_86 ?_
            refine g_idiv (pc := 88) dX8_wrong_88 (fun h => absurd c69 (by rw [h]; decide)) ?_
            exact retI (pc := 89) hR dX8_wrong_89 (by rw [wroR, if_pos ⟨⟨c7, c17⟩, c26⟩, if_pos c69]; simp [c76]) (by rw [wroD, if_pos ⟨⟨c7, c17⟩, c26⟩])
          · skip
            refine il5 (pc := 79) dX8_wrong_79 ?_
            refine g_goto 86 (pc := 81) dX8_wrong_81 (by decide) ?_
            refine il7 (pc := 86) dX8_wrong_86 ?_
            refine g_idiv (pc := 88) dX8_wrong_88 (fun h => absurd c69 (by rw [h]; decide)) ?_
            exact retI (pc := 89) hR dX8_wrong_89 (by rw [wroR, if_pos ⟨⟨c7, c17⟩, c26⟩, if_pos c69]; simp [c76]) (by rw [wroD, if_pos ⟨⟨c7, c17⟩, c26⟩])
        · skip
          refine g_ldc (pc := 72) dX8_wrong_72 wk_X8_65 ?_
          exact retI (pc := 74) hR dX8_wrong_74 (by rw [wroR, if_pos ⟨⟨c7, c17⟩, c26⟩, if_neg c69]) (by rw [wroD, if_pos ⟨⟨c7, c17⟩, c26⟩])
      · skip
        (try simp only [mB_eq0, Decidable.not_not] at c26)
        refine g_ldc (pc := 29) dX8_wrong_29 wk_X8_65 ?_
        exact retI (pc := 31) hR dX8_wrong_31 (by rw [wroR, if_neg]; intro h9; simp [h9] at *) (by rw [wroD, if_neg]; intro h9; simp [h9] at *)
theorem c_X8_kindsOf {l : Launch} {G : mG} {Z : mZ} {d : mD} {x st kp tp sr ha fi sp sh sc pa kc kq le dt mo ne : Nat} {h j m : Nat} (hx : clS Z x st kp tp sr ha fi sp sh sc pa kc kq le dt mo ne) (hh : sht Z h (iA Z h)) (hjm : j + m ≤ 24) : CtI l G yX8_kindsOf cX8_kindsOf 8 .int 5 128 [.ref x, .ref h, .int (nI j), .int (nI m)] Z d (kdQ Z d sc sp sr (iA Z h) j m).2 (kdQ Z d sc sp sr (iA Z h) j m).1 := by
  obtain ⟨p, q, hs⟩ := hx.scV
  obtain ⟨p2, q2, hs2⟩ := hx.spv
  refine enterI RX8 4 [some (.ref x), some (.ref h), some (.int (nI j)), some (.int (nI m)), none, none, none, none] (by decide) rfl (rfl) rfl rfl (fun X hR => ?_)
  refine g_iconst (pc := 0) dX8_kindsOf_0 kc0 ?_
  refine is4 (pc := 1) dX8_kindsOf_1 rfl ?_
  refine al0 (pc := 3) dX8_kindsOf_3 ?_
  refine gf_X8_54 (pc := 4) hx.o8 hx.r7 dX8_kindsOf_4 ?_
  refine al0 (pc := 7) dX8_kindsOf_7 ?_
  refine gf_X8_10 (pc := 8) hx.o8 hx.r0 dX8_kindsOf_8 ?_
  refine gf_X8_82 (pc := 11) hx.st.1 hx.st.2.1 dX8_kindsOf_11 ?_
  refine cl_X8_274 (pc := 14) (cz_X3_become hx.spv hx.scV) hs2.1 (by decide) ⟨Nat.zero_le _, Nat.zero_le _⟩ (Nat.le_of_ble_eq_true rfl) dX8_kindsOf_14 ?_
  refine g_iconst (pc := 17) dX8_kindsOf_17 kc0 ?_
  refine is5 (pc := 18) dX8_kindsOf_18 rfl ?_
  have L20 : ∀ (n i : Nat) (e : mD) (s9 : Int32), i + n = 5 → (kdL Z sp sr (iA Z h) j m n i e s9 = kdQ Z d sc sp sr (iA Z h) j m) → mGo l G (mRm 5 128) X RX8 cX8_kindsOf 8 0 0 Z 20 [some (.ref x), some (.ref h), some (.int (nI j)), some (.int (nI m)), some (.int s9), some (.int (nI i)), none, none] [] e := by
    intro n; induction n with
    | zero =>
      intro i e s9 hin20 hF
      refine il5 (pc := 20) dX8_kindsOf_20 ?_
      refine g_iconst (pc := 22) dX8_kindsOf_22 kc5 ?_
      refine g_icmpge 119 (pc := 23) dX8_kindsOf_23 (by decide) (fun c23 => ?_) (fun c23 => absurd (nI_le (a := 5) (by omega) (by omega)) c23)
      refine il4 (pc := 119) dX8_kindsOf_119 ?_
      exact retI (pc := 121) hR dX8_kindsOf_121 (by rw [← hF]; rfl) (by rw [← hF]; rfl)
    | succ n ih20 =>
      intro i e s9 hin20 hF
      refine il5 (pc := 20) dX8_kindsOf_20 ?_
      refine g_iconst (pc := 22) dX8_kindsOf_22 kc5 ?_
      refine g_icmpge 119 (pc := 23) dX8_kindsOf_23 (by decide) (fun c23 => absurd c23 (nI_ge (b := 5) (by omega) (by omega))) (fun c23 => ?_)
      refine al0 (pc := 26) dX8_kindsOf_26 ?_
      refine gf_X8_54 (pc := 27) hx.o8 hx.r7 dX8_kindsOf_27 ?_
      refine il5 (pc := 30) dX8_kindsOf_30 ?_
      refine pf_X8_113 (pc := 32) hs2.1 dX8_kindsOf_32 ?_
      refine g_iconst (pc := 35) dX8_kindsOf_35 kc1 ?_
      refine is6 (pc := 36) dX8_kindsOf_36 rfl ?_
      refine g_iconst (pc := 38) dX8_kindsOf_38 kc0 ?_
      refine is7 (pc := 39) dX8_kindsOf_39 rfl ?_
      have L41 : ∀ (n2 i2 : Nat) (e2 : mD) (a2 : Int32), i2 + n2 = m → (kdI Z sp sr (iA Z h) j  n2 i2 e2 a2 = kdI Z sp sr (iA Z h) j  m 0 (sI e 98 sp (nI i)) 1) → mGo l G (mRm 5 128) X RX8 cX8_kindsOf 8 0 0 Z 41 [some (.ref x), some (.ref h), some (.int (nI j)), some (.int (nI m)), some (.int s9), some (.int (nI i)), some (.int a2), some (.int (nI i2))] [] e2 := by
        intro n2; induction n2 with
        | zero =>
          intro i2 e2 a2 hin41 hG
          have g1 : e2 = (kdI Z sp sr (iA Z h) j  m 0 (sI e 98 sp (nI i)) 1).1 := by rw [← hG]; rfl
          have g2 : a2 = (kdI Z sp sr (iA Z h) j  m 0 (sI e 98 sp (nI i)) 1).2 := by rw [← hG]; rfl
          refine il7 (pc := 41) dX8_kindsOf_41 ?_
          refine il3 (pc := 43) dX8_kindsOf_43 ?_
          refine g_icmpge 99 (pc := 44) dX8_kindsOf_44 (by decide) (fun c44 => ?_) (fun c44 => absurd (nI_le (by omega) (by omega)) c44)
          subst g1
          subst g2
          refine il6 (pc := 99) dX8_kindsOf_99 ?_
          refine g_ifeq 113 (pc := 101) dX8_kindsOf_101 (by decide) (fun c101 => ?_) (fun c101 => ?_)
          · skip
            refine ic5 (pc := 113) dX8_kindsOf_113 kc1 rfl ?_
            refine g_goto 20 (pc := 116) dX8_kindsOf_116 (by decide) ?_
            rw [nI_1]
            refine dr6 ?_
            refine dr7 ?_
            exact ih20 (i + 1) _ _ (by omega) (by rw [← hF, kdL, if_pos c101])
          · skip
            refine il4 (pc := 104) dX8_kindsOf_104 ?_
            refine g_iconst (pc := 106) dX8_kindsOf_106 kc1 ?_
            refine il5 (pc := 107) dX8_kindsOf_107 ?_
            refine g_ishl (pc := 109) dX8_kindsOf_109 ?_
            refine g_ior (pc := 110) dX8_kindsOf_110 ?_
            refine is4 (pc := 111) dX8_kindsOf_111 rfl ?_
            refine ic5 (pc := 113) dX8_kindsOf_113 kc1 rfl ?_
            refine g_goto 20 (pc := 116) dX8_kindsOf_116 (by decide) ?_
            rw [nI_1]
            refine dr6 ?_
            refine dr7 ?_
            exact ih20 (i + 1) _ _ (by omega) (by rw [← hF, kdL, if_neg c101])
        | succ n2 ih41 =>
          intro i2 e2 a2 hin41 hG
          refine il7 (pc := 41) dX8_kindsOf_41 ?_
          refine il3 (pc := 43) dX8_kindsOf_43 ?_
          refine g_icmpge 99 (pc := 44) dX8_kindsOf_44 (by decide) (fun c44 => absurd c44 (nI_ge (by omega) (by omega))) (fun c44 => ?_)
          refine il6 (pc := 47) dX8_kindsOf_47 ?_
          refine g_ifeq 99 (pc := 49) dX8_kindsOf_49 (by decide) (fun c49 => ?_) (fun c49 => ?_)
          · skip
            have g1 : e2 = (kdI Z sp sr (iA Z h) j  m 0 (sI e 98 sp (nI i)) 1).1 := by rw [← hG, kdI, if_pos c49]
            have g2 : a2 = (kdI Z sp sr (iA Z h) j  m 0 (sI e 98 sp (nI i)) 1).2 := by rw [← hG, kdI, if_pos c49]
            subst g1
            subst g2
            refine il6 (pc := 99) dX8_kindsOf_99 ?_
            refine g_ifeq 113 (pc := 101) dX8_kindsOf_101 (by decide) (fun c101 => ?_) (fun c101 => ?_)
            · skip
              refine ic5 (pc := 113) dX8_kindsOf_113 kc1 rfl ?_
              refine g_goto 20 (pc := 116) dX8_kindsOf_116 (by decide) ?_
              rw [nI_1]
              refine dr6 ?_
              refine dr7 ?_
              exact ih20 (i + 1) _ _ (by omega) (by rw [← hF, kdL, if_pos c101])
            · skip
              refine il4 (pc := 104) dX8_kindsOf_104 ?_
              refine g_iconst (pc := 106) dX8_kindsOf_106 kc1 ?_
              refine il5 (pc := 107) dX8_kindsOf_107 ?_
              refine g_ishl (pc := 109) dX8_kindsOf_109 ?_
              refine g_ior (pc := 110) dX8_kindsOf_110 ?_
              refine is4 (pc := 111) dX8_kindsOf_111 rfl ?_
              refine ic5 (pc := 113) dX8_kindsOf_113 kc1 rfl ?_
              refine g_goto 20 (pc := 116) dX8_kindsOf_116 (by decide) ?_
              rw [nI_1]
              refine dr6 ?_
              refine dr7 ?_
              exact ih20 (i + 1) _ _ (by omega) (by rw [← hF, kdL, if_neg c101])
          · skip
            refine al0 (pc := 52) dX8_kindsOf_52 ?_
            refine gf_X8_33 (pc := 53) hx.o8 hx.r4 dX8_kindsOf_53 ?_
            refine al0 (pc := 56) dX8_kindsOf_56 ?_
            refine gf_X8_54 (pc := 57) hx.o8 hx.r7 dX8_kindsOf_57 ?_
            refine il7 (pc := 60) dX8_kindsOf_60 ?_
            refine cl_X8_174 (pc := 62) (c_X4_best hx.sr hs2) hx.sr (by decide) ⟨Nat.zero_le _, Nat.zero_le _⟩ (Nat.le_of_ble_eq_true rfl) dX8_kindsOf_62 ?_
            refine al1 (pc := 65) dX8_kindsOf_65 ?_
            refine gf_X8_255 (pc := 66) hh.1 hh.2.1 dX8_kindsOf_66 ?_
            refine il2 (pc := 69) dX8_kindsOf_69 ?_
            refine il7 (pc := 70) dX8_kindsOf_70 ?_
            refine g_iadd (pc := 72) dX8_kindsOf_72 ?_
            refine g_lald (pc := 73) (j + i2) hh.2.2 (by omega) (nI_add j i2) (by decide) dX8_kindsOf_73 ?_
            rw [gJ_seT]
            refine al0 (pc := 74) dX8_kindsOf_74 ?_
            refine gf_X8_33 (pc := 75) hx.o8 hx.r4 dX8_kindsOf_75 ?_
            refine gf_X8_134 (pc := 78) hx.sr dX8_kindsOf_78 ?_
            rw [gI_seT0]
            refine g_i2l (pc := 81) dX8_kindsOf_81 ?_
            refine g_lcmp (pc := 82) dX8_kindsOf_82 ?_
            refine g_ifne 90 (pc := 83) dX8_kindsOf_83 (by decide) (fun c83 => ?_) (fun c83 => ?_)
            · skip
              refine g_iconst (pc := 90) dX8_kindsOf_90 kc0 ?_
              refine is6 (pc := 91) dX8_kindsOf_91 rfl ?_
              refine ic7 (pc := 93) dX8_kindsOf_93 kc1 rfl ?_
              refine g_goto 41 (pc := 96) dX8_kindsOf_96 (by decide) ?_
              rw [nI_1]
              exact ih41 (i2 + 1) _ _ (by omega) (by rw [← hG, kdI, if_neg c49, if_neg c83])
            · skip
              refine g_iconst (pc := 86) dX8_kindsOf_86 kc1 ?_
              refine g_goto 91 (pc := 87) dX8_kindsOf_87 (by decide) ?_
              refine is6 (pc := 91) dX8_kindsOf_91 rfl ?_
              refine ic7 (pc := 93) dX8_kindsOf_93 kc1 rfl ?_
              refine g_goto 41 (pc := 96) dX8_kindsOf_96 (by decide) ?_
              rw [nI_1]
              exact ih41 (i2 + 1) _ _ (by omega) (by rw [← hG, kdI, if_neg c49, if_pos c83])
      exact L41 m 0 _ _ (by omega) rfl
  exact L20 5 0 _ _ (by omega) rfl
theorem c_X8_found {l : Launch} {G : mG} {Z : mZ} {d : mD} {x st kp tp sr ha fi sp sh sc pa kc kq le dt mo ne : Nat} {v ln i n : Int32} (hx : clS Z x st kp tp sr ha fi sp sh sc pa kc kq le dt mo ne) (hsh : shs Z d sh) (hsz : ∀ i, i < 4 → ∃ z, z ≤ 24 ∧ gI d 163 (psO d sh i) = nI z) : CtI l G yX8_found cX8_found 6 .int 6 155 [.ref x, .int v, .int ln, .int i, .int n] Z d (fouR Z d sh sc sp sr v ln i n) (fouD Z d sh sc sp sr v ln i n) := by
  obtain ⟨p, q, hs⟩ := hx.scV
  obtain ⟨p2, q2, hs2⟩ := hx.spv
  refine enterI RX8 1 [some (.ref x), some (.int v), some (.int ln), some (.int i), some (.int n), none] (by decide) rfl (rfl) rfl rfl (fun X hR => ?_)
  refine il1 (pc := 0) dX8_found_0 ?_
  refine cl_X8_219 (pc := 1) (c_X8_isSheet) (by decide) ⟨Nat.zero_le _, Nat.zero_le _⟩ (Nat.le_of_ble_eq_true rfl) dX8_found_1 ?_
  refine g_ifeq 25 (pc := 4) dX8_found_4 (by decide) (fun c4 => ?_) (fun c4 => ?_)
  · skip
    (try simp only [mB_eq0, Decidable.not_not] at c4)
    refine g_ldc (pc := 25) dX8_found_25 wk_X8_65 ?_
    exact retI (pc := 27) hR dX8_found_27 (by rw [fouR, if_neg]; intro h9; simp [h9] at *) (by rw [fouD, if_neg]; intro h9; simp [h9.1] at *)
  · skip
    (try simp only [mB_eq0, Decidable.not_not] at c4)
    refine il2 (pc := 7) dX8_found_7 ?_
    refine cl_X8_222 (pc := 8) (c_X8_isLane) (by decide) ⟨Nat.zero_le _, Nat.zero_le _⟩ (Nat.le_of_ble_eq_true rfl) dX8_found_8 ?_
    refine g_ifeq 25 (pc := 11) dX8_found_11 (by decide) (fun c11 => ?_) (fun c11 => ?_)
    · skip
      (try simp only [mB_eq0, Decidable.not_not] at c11)
      refine g_ldc (pc := 25) dX8_found_25 wk_X8_65 ?_
      exact retI (pc := 27) hR dX8_found_27 (by rw [fouR, if_neg]; intro h9; simp [h9] at *) (by rw [fouD, if_neg]; intro h9; simp [h9.1] at *)
    · skip
      (try simp only [mB_eq0, Decidable.not_not] at c11)
      refine il4 (pc := 14) dX8_found_14 ?_
      refine g_iconst (pc := 16) dX8_found_16 kc1 ?_
      refine g_bipush (pc := 17) dX8_found_17 kb6 ?_
      refine cl_X8_105 (pc := 19) (c_X8_isWithin) (by decide) ⟨Nat.zero_le _, Nat.zero_le _⟩ (Nat.le_of_ble_eq_true rfl) dX8_found_19 ?_
      refine g_ifne 28 (pc := 22) dX8_found_22 (by decide) (fun c22 => ?_) (fun c22 => ?_)
      · skip
        (try simp only [mB_eq0, Decidable.not_not] at c22)
        have hv9 := wth_nI 3 (by decide) c4
        refine al0 (pc := 28) dX8_found_28 ?_
        refine gf_X8_60 (pc := 29) hx.o8 hx.r8 dX8_found_29 ?_
        refine il1 (pc := 32) dX8_found_32 ?_
        refine g_aldT (pc := 33) (tN v) hx.sh (by omega) (hv9.1) (by decide) ((hsh (tN v) (by omega)).1) dX8_found_33 ?_
        refine il2 (pc := 34) dX8_found_34 ?_
        refine il3 (pc := 35) dX8_found_35 ?_
        refine il4 (pc := 36) dX8_found_36 ?_
        refine cl_X8_225 (pc := 38) (c_X5_refusal (hsh (tN v) (by omega)).2) (hsh (tN v) (by omega)).2.1 (by decide) ⟨Nat.zero_le _, Nat.zero_le _⟩ (Nat.le_of_ble_eq_true rfl) dX8_found_38 ?_
        rw [← rfS]
        refine is5 (pc := 41) dX8_found_41 rfl ?_
        refine il5 (pc := 43) dX8_found_43 ?_
        refine g_ifeq 53 (pc := 45) dX8_found_45 (by decide) (fun c45 => ?_) (fun c45 => ?_)
        · skip
          refine al0 (pc := 53) dX8_found_53 ?_
          refine al0 (pc := 54) dX8_found_54 ?_
          refine gf_X8_60 (pc := 55) hx.o8 hx.r8 dX8_found_55 ?_
          refine il1 (pc := 58) dX8_found_58 ?_
          refine g_aldT (pc := 59) (tN v) hx.sh (by omega) (hv9.1) (by decide) ((hsh (tN v) (by omega)).1) dX8_found_59 ?_
          refine il3 (pc := 60) dX8_found_60 ?_
          refine il4 (pc := 61) dX8_found_61 ?_
          obtain ⟨z, hz1, hz2⟩ := hsz (tN v) (by omega)
          have hr9 := refI_0 c45
          rw [hz2] at hr9
          have hs9 := spn_nI hz1 hr9.2.2
          rw [hs9.1, hs9.2.1]
          refine cl_X8_229 (pc := 63) (c_X8_kindsOf (j := tN i) (m := tN n) hx (hsh (tN v) (by omega)).2 (by omega)) hx.o8 (by decide) ⟨Nat.zero_le _, Nat.zero_le _⟩ (Nat.le_of_ble_eq_true rfl) dX8_found_63 ?_
          exact retI (pc := 66) hR dX8_found_66 (by rw [fouR, if_pos ⟨⟨c4, c11⟩, c22⟩, if_pos c45]; rfl) (by rw [fouD, if_pos ⟨⟨⟨c4, c11⟩, c22⟩, c45⟩]; rfl)
        · skip
          refine il5 (pc := 48) dX8_found_48 ?_
          refine g_goto 66 (pc := 50) dX8_found_50 (by decide) ?_
          exact retI (pc := 66) hR dX8_found_66 (by rw [fouR, if_pos ⟨⟨c4, c11⟩, c22⟩, if_neg c45]) (by rw [fouD, if_neg]; intro h9; exact c45 h9.2)
      · skip
        (try simp only [mB_eq0, Decidable.not_not] at c22)
        refine g_ldc (pc := 25) dX8_found_25 wk_X8_65 ?_
        exact retI (pc := 27) hR dX8_found_27 (by rw [fouR, if_neg]; intro h9; simp [h9] at *) (by rw [fouD, if_neg]; intro h9; simp [h9.1] at *)
theorem c_X8_film {l : Launch} {G : mG} {Z : mZ} {d : mD} {x st kp tp sr ha fi sp sh sc pa kc kq le dt mo ne : Nat} {n v ln i0 : Int32} (hx : clS Z x st kp tp sr ha fi sp sh sc pa kc kq le dt mo ne) (hsh : shs Z d sh) (hsz : ∀ i, i < 4 → ∃ z, z ≤ 24 ∧ gI d 163 (psO d sh i) = nI z) : CtI l G yX8_film cX8_film 7 .int 5 128 [.ref x, .int n, .int v, .int ln, .int i0] Z d (filR d sh n v ln i0) (filD Z d sh sc sr n v ln i0) := by
  obtain ⟨p, q, hs⟩ := hx.scV
  obtain ⟨p2, q2, hs2⟩ := hx.spv
  refine enterI RX8 2 [some (.ref x), some (.int n), some (.int v), some (.int ln), some (.int i0), none, none] (by decide) rfl (rfl) rfl rfl (fun X hR => ?_)
  refine il1 (pc := 0) dX8_film_0 ?_
  refine g_iconst (pc := 1) dX8_film_1 kc1 ?_
  refine g_bipush (pc := 2) dX8_film_2 kb6 ?_
  refine cl_X8_105 (pc := 4) (c_X8_isWithin) (by decide) ⟨Nat.zero_le _, Nat.zero_le _⟩ (Nat.le_of_ble_eq_true rfl) dX8_film_4 ?_
  refine g_ifeq 24 (pc := 7) dX8_film_7 (by decide) (fun c7 => ?_) (fun c7 => ?_)
  · skip
    (try simp only [mB_eq0, Decidable.not_not] at c7)
    refine g_ldc (pc := 24) dX8_film_24 wk_X8_65 ?_
    exact retI (pc := 26) hR dX8_film_26 (by rw [filR, if_neg]; intro h9; simp [h9] at *) (by rw [filD, if_neg]; intro h9; simp [h9.1] at *)
  · skip
    (try simp only [mB_eq0, Decidable.not_not] at c7)
    refine il2 (pc := 10) dX8_film_10 ?_
    refine cl_X8_219 (pc := 11) (c_X8_isSheet) (by decide) ⟨Nat.zero_le _, Nat.zero_le _⟩ (Nat.le_of_ble_eq_true rfl) dX8_film_11 ?_
    refine g_ifeq 24 (pc := 14) dX8_film_14 (by decide) (fun c14 => ?_) (fun c14 => ?_)
    · skip
      (try simp only [mB_eq0, Decidable.not_not] at c14)
      refine g_ldc (pc := 24) dX8_film_24 wk_X8_65 ?_
      exact retI (pc := 26) hR dX8_film_26 (by rw [filR, if_neg]; intro h9; simp [h9] at *) (by rw [filD, if_neg]; intro h9; simp [h9.1] at *)
    · skip
      (try simp only [mB_eq0, Decidable.not_not] at c14)
      refine il3 (pc := 17) dX8_film_17 ?_
      refine cl_X8_222 (pc := 18) (c_X8_isLane) (by decide) ⟨Nat.zero_le _, Nat.zero_le _⟩ (Nat.le_of_ble_eq_true rfl) dX8_film_18 ?_
      refine g_ifne 27 (pc := 21) dX8_film_21 (by decide) (fun c21 => ?_) (fun c21 => ?_)
      · skip
        (try simp only [mB_eq0, Decidable.not_not] at c21)
        have hv9 := wth_nI 3 (by decide) c14
        refine al0 (pc := 27) dX8_film_27 ?_
        refine gf_X8_60 (pc := 28) hx.o8 hx.r8 dX8_film_28 ?_
        refine il2 (pc := 31) dX8_film_31 ?_
        refine g_aldT (pc := 32) (tN v) hx.sh (by omega) (hv9.1) (by decide) ((hsh (tN v) (by omega)).1) dX8_film_32 ?_
        refine il3 (pc := 33) dX8_film_33 ?_
        refine il4 (pc := 34) dX8_film_34 ?_
        refine il1 (pc := 36) dX8_film_36 ?_
        refine cl_X8_225 (pc := 37) (c_X5_refusal (hsh (tN v) (by omega)).2) (hsh (tN v) (by omega)).2.1 (by decide) ⟨Nat.zero_le _, Nat.zero_le _⟩ (Nat.le_of_ble_eq_true rfl) dX8_film_37 ?_
        rw [← rfS]
        refine is5 (pc := 40) dX8_film_40 rfl ?_
        refine il5 (pc := 42) dX8_film_42 ?_
        refine g_ifeq 50 (pc := 44) dX8_film_44 (by decide) (fun c44 => ?_) (fun c44 => ?_)
        · skip
          obtain ⟨z, hz1, hz2⟩ := hsz (tN v) (by omega)
          have hr9 := refI_0 c44
          rw [hz2] at hr9
          have hs9 := spn_nI hz1 hr9.2.2
          refine g_iconst (pc := 50) dX8_film_50 kc0 ?_
          refine is6 (pc := 51) dX8_film_51 rfl ?_
          have L53 : ∀ (n9 i : Nat) (e : mD), i + n9 = (tN n) → (gO e sh (tN v) = some (psO d sh (tN v))) → (flL Z sc sr (iA Z (psO d sh (tN v))) (psO d sh (tN v)) (tN i0) n9 i e = filE Z d sh sc sr n v i0) → mGo l G (mRm 5 128) X RX8 cX8_film 7 0 0 Z 53 [some (.ref x), some (.int n), some (.int v), some (.int ln), some (.int i0), none, some (.int (nI i))] [] e := by
            intro n9; induction n9 with
            | zero =>
              intro i e hin53 ho hF
              refine il6 (pc := 53) dX8_film_53 ?_
              refine il1 (pc := 55) dX8_film_55 ?_
              refine g_icmpge 103 (pc := 56) dX8_film_56 (by decide) (fun c56 => ?_) (fun c56 => absurd (by rw [hs9.2.1]; exact nI_le (by omega) (by omega)) c56)
              refine il1 (pc := 103) dX8_film_103 ?_
              exact retI (pc := 104) hR dX8_film_104 (by rw [filR, if_pos ⟨⟨c7, c14⟩, c21⟩, if_pos c44]) (by rw [filD, if_pos ⟨⟨⟨c7, c14⟩, c21⟩, c44⟩, ← hF]; rfl)
            | succ n9 ih53 =>
              intro i e hin53 ho hF
              refine il6 (pc := 53) dX8_film_53 ?_
              refine il1 (pc := 55) dX8_film_55 ?_
              refine g_icmpge 103 (pc := 56) dX8_film_56 (by decide) (fun c56 => absurd c56 (by rw [hs9.2.1]; exact nI_ge (by omega) (by omega))) (fun c56 => ?_)
              refine al0 (pc := 59) dX8_film_59 ?_
              refine gf_X8_33 (pc := 60) hx.o8 hx.r4 dX8_film_60 ?_
              refine al0 (pc := 63) dX8_film_63 ?_
              refine gf_X8_10 (pc := 64) hx.o8 hx.r0 dX8_film_64 ?_
              refine gf_X8_82 (pc := 67) hx.st.1 hx.st.2.1 dX8_film_67 ?_
              refine il6 (pc := 70) dX8_film_70 ?_
              refine cl_X8_174 (pc := 72) (c_X4_best hx.sr hs) hx.sr (by decide) ⟨Nat.zero_le _, Nat.zero_le _⟩ (Nat.le_of_ble_eq_true rfl) dX8_film_72 ?_
              refine al0 (pc := 75) dX8_film_75 ?_
              refine gf_X8_60 (pc := 76) hx.o8 hx.r8 dX8_film_76 ?_
              refine il2 (pc := 79) dX8_film_79 ?_
              refine g_aldT (pc := 80) (tN v) hx.sh (by omega) (hv9.1) (by decide) (ho) dX8_film_80 ?_
              refine il4 (pc := 81) dX8_film_81 ?_
              refine il6 (pc := 83) dX8_film_83 ?_
              refine g_iadd (pc := 85) dX8_film_85 ?_
              refine al0 (pc := 86) dX8_film_86 ?_
              refine gf_X8_33 (pc := 87) hx.o8 hx.r4 dX8_film_87 ?_
              refine gf_X8_134 (pc := 90) hx.sr dX8_film_90 ?_
              rw [gI_seT0]
              refine g_i2l (pc := 93) dX8_film_93 ?_
              rw [show i0 + nI i = nI (tN i0 + i) by rw [← nI_add, ← hs9.1]]
              refine cl_X8_233 (pc := 94) (c_X5_put (j := tN i0 + i) (hsh (tN v) (by omega)).2 (by omega)) (hsh (tN v) (by omega)).2.1 (by decide) ⟨Nat.zero_le _, Nat.zero_le _⟩ (Nat.le_of_ble_eq_true rfl) dX8_film_94 ?_
              rw [gJ_seT, gI_seT _ _ _ _ (Or.inr (by decide))]
              refine ic6 (pc := 97) dX8_film_97 kc1 rfl ?_
              refine g_goto 53 (pc := 100) dX8_film_100 (by decide) ?_
              rw [nI_1]
              exact ih53 (i + 1) _ (by omega) ho hF
          refine dr5 ?_
          refine dr5 ?_
          exact L53 (tN n) 0 _ (by omega) (hsh (tN v) (by omega)).1 rfl
        · skip
          refine il5 (pc := 47) dX8_film_47 ?_
          exact retI (pc := 49) hR dX8_film_49 (by rw [filR, if_pos ⟨⟨c7, c14⟩, c21⟩, if_neg c44]) (by rw [filD, if_neg]; intro h9; exact c44 h9.2)
      · skip
        (try simp only [mB_eq0, Decidable.not_not] at c21)
        refine g_ldc (pc := 24) dX8_film_24 wk_X8_65 ?_
        exact retI (pc := 26) hR dX8_film_26 (by rw [filR, if_neg]; intro h9; simp [h9] at *) (by rw [filD, if_neg]; intro h9; simp [h9.1] at *)
theorem c_X8_sheet {l : Launch} {G : mG} {Z : mZ} {d : mD} {x st kp tp sr ha fi sp sh sc pa kc kq le dt mo ne : Nat} {v ln n : Int32} (hx : clS Z x st kp tp sr ha fi sp sh sc pa kc kq le dt mo ne) (hsh : shs Z d sh) (hsz : ∀ i, i < 4 → ∃ z, z ≤ 24 ∧ gI d 163 (psO d sh i) = nI z) : CtI l G yX8_sheet cX8_sheet 4 .int 2 42 [.ref x, .int v, .int ln, .int n] Z d (sheR v ln n) (sheD Z d sh v ln n) := by
  obtain ⟨p, q, hs⟩ := hx.scV
  obtain ⟨p2, q2, hs2⟩ := hx.spv
  refine enterI RX8 0 [some (.ref x), some (.int v), some (.int ln), some (.int n)] (by decide) rfl (rfl) rfl rfl (fun X hR => ?_)
  refine il1 (pc := 0) dX8_sheet_0 ?_
  refine cl_X8_219 (pc := 1) (c_X8_isSheet) (by decide) ⟨Nat.zero_le _, Nat.zero_le _⟩ (Nat.le_of_ble_eq_true rfl) dX8_sheet_1 ?_
  refine g_ifeq 20 (pc := 4) dX8_sheet_4 (by decide) (fun c4 => ?_) (fun c4 => ?_)
  · skip
    (try simp only [mB_eq0, Decidable.not_not] at c4)
    refine g_ldc (pc := 20) dX8_sheet_20 wk_X8_65 ?_
    exact retI (pc := 22) hR dX8_sheet_22 (by rw [sheR, if_neg]; intro h9; simp [h9] at *) (by rw [sheD, if_neg]; intro h9; simp [h9.1] at *)
  · skip
    (try simp only [mB_eq0, Decidable.not_not] at c4)
    refine il2 (pc := 7) dX8_sheet_7 ?_
    refine cl_X8_222 (pc := 8) (c_X8_isLane) (by decide) ⟨Nat.zero_le _, Nat.zero_le _⟩ (Nat.le_of_ble_eq_true rfl) dX8_sheet_8 ?_
    refine g_ifeq 20 (pc := 11) dX8_sheet_11 (by decide) (fun c11 => ?_) (fun c11 => ?_)
    · skip
      (try simp only [mB_eq0, Decidable.not_not] at c11)
      refine g_ldc (pc := 20) dX8_sheet_20 wk_X8_65 ?_
      exact retI (pc := 22) hR dX8_sheet_22 (by rw [sheR, if_neg]; intro h9; simp [h9] at *) (by rw [sheD, if_neg]; intro h9; simp [h9.1] at *)
    · skip
      (try simp only [mB_eq0, Decidable.not_not] at c11)
      refine il3 (pc := 14) dX8_sheet_14 ?_
      refine g_bipush (pc := 15) dX8_sheet_15 kb24 ?_
      refine g_icmple 23 (pc := 17) dX8_sheet_17 (by decide) (fun c17 => ?_) (fun c17 => ?_)
      · skip
        have hv9 := wth_nI 3 (by decide) c4
        refine il3 (pc := 23) dX8_sheet_23 ?_
        refine g_ifge 30 (pc := 24) dX8_sheet_24 (by decide) (fun c24 => ?_) (fun c24 => ?_)
        · skip
          refine al0 (pc := 30) dX8_sheet_30 ?_
          refine gf_X8_60 (pc := 31) hx.o8 hx.r8 dX8_sheet_31 ?_
          refine il1 (pc := 34) dX8_sheet_34 ?_
          refine g_aldT (pc := 35) (tN v) hx.sh (by omega) (hv9.1) (by decide) ((hsh (tN v) (by omega)).1) dX8_sheet_35 ?_
          refine il2 (pc := 36) dX8_sheet_36 ?_
          refine il3 (pc := 37) dX8_sheet_37 ?_
          refine cl_X8_238 (pc := 38) (c_X5_begin (hsh (tN v) (by omega)).2) (hsh (tN v) (by omega)).2.1 (by decide) ⟨Nat.zero_le _, Nat.zero_le _⟩ (Nat.le_of_ble_eq_true rfl) dX8_sheet_38 ?_
          refine il3 (pc := 41) dX8_sheet_41 ?_
          exact retI (pc := 42) hR dX8_sheet_42 (by rw [sheR, if_pos ⟨⟨c4, c11⟩, c17⟩, if_pos c24]) (by rw [sheD, if_pos ⟨⟨⟨c4, c11⟩, c17⟩, c24⟩])
        · skip
          refine g_ldc (pc := 27) dX8_sheet_27 wk_X8_237 ?_
          exact retI (pc := 29) hR dX8_sheet_29 (by rw [sheR, if_pos ⟨⟨c4, c11⟩, c17⟩, if_neg c24]) (by rw [sheD, if_neg]; intro h9; exact c24 h9.2)
      · skip
        refine g_ldc (pc := 20) dX8_sheet_20 wk_X8_65 ?_
        exact retI (pc := 22) hR dX8_sheet_22 (by rw [sheR, if_neg]; intro h9; simp [h9] at *) (by rw [sheD, if_neg]; intro h9; simp [h9.1] at *)
theorem c_X8_drop {l : Launch} {G : mG} {Z : mZ} {d : mD} {x st kp tp sr ha fi sp sh sc pa kc kq le dt mo ne : Nat} {v : Int32} (hx : clS Z x st kp tp sr ha fi sp sh sc pa kc kq le dt mo ne) (hsh : shs Z d sh) (hsz : ∀ i, i < 4 → ∃ z, z ≤ 24 ∧ gI d 163 (psO d sh i) = nI z) : CtI l G yX8_drop cX8_drop 2 .int 2 42 [.ref x, .int v] Z d (droR d sh v) (droD d sh v) := by
  obtain ⟨p, q, hs⟩ := hx.scV
  obtain ⟨p2, q2, hs2⟩ := hx.spv
  refine enterI RX8 0 [some (.ref x), some (.int v)] (by decide) rfl (rfl) rfl rfl (fun X hR => ?_)
  refine il1 (pc := 0) dX8_drop_0 ?_
  refine cl_X8_219 (pc := 1) (c_X8_isSheet) (by decide) ⟨Nat.zero_le _, Nat.zero_le _⟩ (Nat.le_of_ble_eq_true rfl) dX8_drop_1 ?_
  refine g_ifne 10 (pc := 4) dX8_drop_4 (by decide) (fun c4 => ?_) (fun c4 => ?_)
  · skip
    (try simp only [mB_eq0, Decidable.not_not] at c4)
    have hv9 := wth_nI 3 (by decide) c4
    refine al0 (pc := 10) dX8_drop_10 ?_
    refine gf_X8_60 (pc := 11) hx.o8 hx.r8 dX8_drop_11 ?_
    refine il1 (pc := 14) dX8_drop_14 ?_
    refine g_aldT (pc := 15) (tN v) hx.sh (by omega) (hv9.1) (by decide) ((hsh (tN v) (by omega)).1) dX8_drop_15 ?_
    refine gf_X8_242 (pc := 16) (hsh (tN v) (by omega)).2.1 dX8_drop_16 ?_
    refine g_ifne 25 (pc := 19) dX8_drop_19 (by decide) (fun c19 => ?_) (fun c19 => ?_)
    · skip
      refine al0 (pc := 25) dX8_drop_25 ?_
      refine gf_X8_60 (pc := 26) hx.o8 hx.r8 dX8_drop_26 ?_
      refine il1 (pc := 29) dX8_drop_29 ?_
      refine g_aldT (pc := 30) (tN v) hx.sh (by omega) (hv9.1) (by decide) ((hsh (tN v) (by omega)).1) dX8_drop_30 ?_
      refine g_iconst (pc := 31) dX8_drop_31 kc0 ?_
      refine pf_X8_242 (pc := 32) (hsh (tN v) (by omega)).2.1 (by decide) (by decide) dX8_drop_32 ?_
      refine al0 (pc := 35) dX8_drop_35 ?_
      refine gf_X8_60 (pc := 36) hx.o8 hx.r8 dX8_drop_36 ?_
      refine il1 (pc := 39) dX8_drop_39 ?_
      refine g_aldT (pc := 40) (tN v) hx.sh (by omega) (hv9.1) (by decide) ((hsh (tN v) (by omega)).1) dX8_drop_40 ?_
      refine gf_X8_246 (pc := 41) (hsh (tN v) (by omega)).2.1 dX8_drop_41 ?_
      exact retI (pc := 44) hR dX8_drop_44 (by rw [gI_ne (by decide), droR, if_pos c4, if_neg c19]) (by rw [droD, if_pos ⟨c4, c19⟩])
    · skip
      refine g_ldc (pc := 22) dX8_drop_22 wk_X8_245 ?_
      exact retI (pc := 24) hR dX8_drop_24 (by rw [droR, if_pos c4, if_pos c19]) (by rw [droD, if_neg]; intro h9; exact h9.2 c19)
  · skip
    (try simp only [mB_eq0, Decidable.not_not] at c4)
    refine g_ldc (pc := 7) dX8_drop_7 wk_X8_65 ?_
    exact retI (pc := 9) hR dX8_drop_9 (by rw [droR, if_neg]; intro h9; simp [h9] at *) (by rw [droD, if_neg]; intro h9; simp [h9.1] at *)
theorem c_X8_item {l : Launch} {G : mG} {Z : mZ} {d : mD} {x st kp tp sr ha fi sp sh sc pa kc kq le dt mo ne : Nat} {v ln i : Int32} {y : Int64} (hx : clS Z x st kp tp sr ha fi sp sh sc pa kc kq le dt mo ne) (hsh : shs Z d sh) (hsz : ∀ i, i < 4 → ∃ z, z ≤ 24 ∧ gI d 163 (psO d sh i) = nI z) : CtI l G yX8_item cX8_item 7 .int 2 45 [.ref x, .int v, .int ln, .int i, .long y] Z d (iteR d sh v ln i) (iteD Z d sh v ln i y) := by
  obtain ⟨p, q, hs⟩ := hx.scV
  obtain ⟨p2, q2, hs2⟩ := hx.spv
  refine enterI RX8 1 [some (.ref x), some (.int v), some (.int ln), some (.int i), some (.long y), none, none] (by decide) rfl (rfl) rfl rfl (fun X hR => ?_)
  refine il1 (pc := 0) dX8_item_0 ?_
  refine cl_X8_219 (pc := 1) (c_X8_isSheet) (by decide) ⟨Nat.zero_le _, Nat.zero_le _⟩ (Nat.le_of_ble_eq_true rfl) dX8_item_1 ?_
  refine g_ifeq 14 (pc := 4) dX8_item_4 (by decide) (fun c4 => ?_) (fun c4 => ?_)
  · skip
    (try simp only [mB_eq0, Decidable.not_not] at c4)
    refine g_ldc (pc := 14) dX8_item_14 wk_X8_65 ?_
    exact retI (pc := 16) hR dX8_item_16 (by rw [iteR, if_neg]; intro h9; simp [h9] at *) (by rw [iteD, if_neg]; intro h9; simp [h9.1] at *)
  · skip
    (try simp only [mB_eq0, Decidable.not_not] at c4)
    refine il2 (pc := 7) dX8_item_7 ?_
    refine cl_X8_222 (pc := 8) (c_X8_isLane) (by decide) ⟨Nat.zero_le _, Nat.zero_le _⟩ (Nat.le_of_ble_eq_true rfl) dX8_item_8 ?_
    refine g_ifne 17 (pc := 11) dX8_item_11 (by decide) (fun c11 => ?_) (fun c11 => ?_)
    · skip
      (try simp only [mB_eq0, Decidable.not_not] at c11)
      have hv9 := wth_nI 3 (by decide) c4
      refine al0 (pc := 17) dX8_item_17 ?_
      refine gf_X8_60 (pc := 18) hx.o8 hx.r8 dX8_item_18 ?_
      refine il1 (pc := 21) dX8_item_21 ?_
      refine g_aldT (pc := 22) (tN v) hx.sh (by omega) (hv9.1) (by decide) ((hsh (tN v) (by omega)).1) dX8_item_22 ?_
      refine il2 (pc := 23) dX8_item_23 ?_
      refine il3 (pc := 24) dX8_item_24 ?_
      refine g_iconst (pc := 25) dX8_item_25 kc1 ?_
      refine cl_X8_225 (pc := 26) (c_X5_refusal (hsh (tN v) (by omega)).2) (hsh (tN v) (by omega)).2.1 (by decide) ⟨Nat.zero_le _, Nat.zero_le _⟩ (Nat.le_of_ble_eq_true rfl) dX8_item_26 ?_
      rw [← rfS]
      refine is6 (pc := 29) dX8_item_29 rfl ?_
      refine il6 (pc := 31) dX8_item_31 ?_
      refine g_ifeq 39 (pc := 33) dX8_item_33 (by decide) (fun c33 => ?_) (fun c33 => ?_)
      · skip
        obtain ⟨z, hz1, hz2⟩ := hsz (tN v) (by omega)
        have hr9 := refI_0 c33
        rw [hz2] at hr9
        have hs9 := spn_nI hz1 hr9.2.2
        refine al0 (pc := 39) dX8_item_39 ?_
        refine gf_X8_60 (pc := 40) hx.o8 hx.r8 dX8_item_40 ?_
        refine il1 (pc := 43) dX8_item_43 ?_
        refine g_aldT (pc := 44) (tN v) hx.sh (by omega) (hv9.1) (by decide) ((hsh (tN v) (by omega)).1) dX8_item_44 ?_
        refine il3 (pc := 45) dX8_item_45 ?_
        refine ll4 (pc := 46) dX8_item_46 ?_
        have h1e : tN (1 : Int32) = 1 := by decide
        rw [hs9.1]
        refine cl_X8_233 (pc := 48) (c_X5_put (j := tN i) (hsh (tN v) (by omega)).2 (by omega)) (hsh (tN v) (by omega)).2.1 (by decide) ⟨Nat.zero_le _, Nat.zero_le _⟩ (Nat.le_of_ble_eq_true rfl) dX8_item_48 ?_
        refine g_iconst (pc := 51) dX8_item_51 kc1 ?_
        exact retI (pc := 52) hR dX8_item_52 (by rw [iteR, if_pos ⟨c4, c11⟩, if_pos c33]) (by rw [iteD, if_pos ⟨⟨c4, c11⟩, c33⟩])
      · skip
        refine il6 (pc := 36) dX8_item_36 ?_
        exact retI (pc := 38) hR dX8_item_38 (by rw [iteR, if_pos ⟨c4, c11⟩, if_neg c33]) (by rw [iteD, if_neg]; intro h9; exact c33 h9.2)
    · skip
      (try simp only [mB_eq0, Decidable.not_not] at c11)
      refine g_ldc (pc := 14) dX8_item_14 wk_X8_65 ?_
      exact retI (pc := 16) hR dX8_item_16 (by rw [iteR, if_neg]; intro h9; simp [h9] at *) (by rw [iteD, if_neg]; intro h9; simp [h9.1] at *)
theorem c_X8_copy {l : Launch} {G : mG} {Z : mZ} {d : mD} {x st kp tp sr ha fi sp sh sc pa kc kq le dt mo ne : Nat} {u i v j n : Int32} (hx : clS Z x st kp tp sr ha fi sp sh sc pa kc kq le dt mo ne) (hsh : shs Z d sh) (hsz : ∀ i, i < 4 → ∃ z, z ≤ 24 ∧ gI d 163 (psO d sh i) = nI z) : CtI l G yX8_copy cX8_copy 8 .int 2 60 [.ref x, .int u, .int i, .int v, .int j, .int n] Z d (copR d sh u i v j n) (copD Z d sh u i v j n) := by
  obtain ⟨p, q, hs⟩ := hx.scV
  obtain ⟨p2, q2, hs2⟩ := hx.spv
  refine enterI RX8 2 [some (.ref x), some (.int u), some (.int i), some (.int v), some (.int j), some (.int n), none, none] (by decide) rfl (rfl) rfl rfl (fun X hR => ?_)
  refine il1 (pc := 0) dX8_copy_0 ?_
  refine cl_X8_219 (pc := 1) (c_X8_isSheet) (by decide) ⟨Nat.zero_le _, Nat.zero_le _⟩ (Nat.le_of_ble_eq_true rfl) dX8_copy_1 ?_
  refine g_ifeq 14 (pc := 4) dX8_copy_4 (by decide) (fun c4 => ?_) (fun c4 => ?_)
  · skip
    (try simp only [mB_eq0, Decidable.not_not] at c4)
    refine g_ldc (pc := 14) dX8_copy_14 wk_X8_65 ?_
    exact retI (pc := 16) hR dX8_copy_16 (by rw [copR, if_neg]; intro h9; simp [h9] at *) (by rw [copD, if_neg]; intro h9; simp [h9.1] at *)
  · skip
    (try simp only [mB_eq0, Decidable.not_not] at c4)
    refine il3 (pc := 7) dX8_copy_7 ?_
    refine cl_X8_219 (pc := 8) (c_X8_isSheet) (by decide) ⟨Nat.zero_le _, Nat.zero_le _⟩ (Nat.le_of_ble_eq_true rfl) dX8_copy_8 ?_
    refine g_ifne 17 (pc := 11) dX8_copy_11 (by decide) (fun c11 => ?_) (fun c11 => ?_)
    · skip
      (try simp only [mB_eq0, Decidable.not_not] at c11)
      have hu9 := wth_nI 3 (by decide) c4
      have hv9 := wth_nI 3 (by decide) c11
      refine al0 (pc := 17) dX8_copy_17 ?_
      refine gf_X8_60 (pc := 18) hx.o8 hx.r8 dX8_copy_18 ?_
      refine il1 (pc := 21) dX8_copy_21 ?_
      refine g_aldT (pc := 22) (tN u) hx.sh (by omega) (hu9.1) (by decide) ((hsh (tN u) (by omega)).1) dX8_copy_22 ?_
      refine as6 (pc := 23) dX8_copy_23 rfl ?_
      refine al0 (pc := 25) dX8_copy_25 ?_
      refine gf_X8_60 (pc := 26) hx.o8 hx.r8 dX8_copy_26 ?_
      refine il3 (pc := 29) dX8_copy_29 ?_
      refine g_aldT (pc := 30) (tN v) hx.sh (by omega) (hv9.1) (by decide) ((hsh (tN v) (by omega)).1) dX8_copy_30 ?_
      refine as7 (pc := 31) dX8_copy_31 rfl ?_
      refine al6 (pc := 33) dX8_copy_33 ?_
      refine gf_X8_242 (pc := 35) (hsh (tN u) (by omega)).2.1 dX8_copy_35 ?_
      refine g_ifeq 49 (pc := 38) dX8_copy_38 (by decide) (fun c38 => ?_) (fun c38 => ?_)
      · skip
        refine g_ldc (pc := 49) dX8_copy_49 wk_X8_245 ?_
        exact retI (pc := 51) hR dX8_copy_51 (by rw [copR, if_pos ⟨c4, c11⟩, if_pos (Or.inl c38)]) (by rw [copD, if_neg]; intro h9; exact h9.2.1 (Or.inl c38))
      · skip
        refine al7 (pc := 41) dX8_copy_41 ?_
        refine gf_X8_242 (pc := 43) (hsh (tN v) (by omega)).2.1 dX8_copy_43 ?_
        refine g_ifne 52 (pc := 46) dX8_copy_46 (by decide) (fun c46 => ?_) (fun c46 => ?_)
        · skip
          refine al6 (pc := 52) dX8_copy_52 ?_
          refine gf_X8_247 (pc := 54) (hsh (tN u) (by omega)).2.1 dX8_copy_54 ?_
          refine al7 (pc := 57) dX8_copy_57 ?_
          refine gf_X8_247 (pc := 59) (hsh (tN v) (by omega)).2.1 dX8_copy_59 ?_
          refine g_icmpeq 68 (pc := 62) dX8_copy_62 (by decide) (fun c62 => ?_) (fun c62 => ?_)
          · skip
            refine al6 (pc := 68) dX8_copy_68 ?_
            refine il2 (pc := 70) dX8_copy_70 ?_
            refine il5 (pc := 71) dX8_copy_71 ?_
            refine cl_X8_251 (pc := 73) (c_X5_spans (hsh (tN u) (by omega)).2) (hsh (tN u) (by omega)).2.1 (by decide) ⟨Nat.zero_le _, Nat.zero_le _⟩ (Nat.le_of_ble_eq_true rfl) dX8_copy_73 ?_
            refine g_ifeq 91 (pc := 76) dX8_copy_76 (by decide) (fun c76 => ?_) (fun c76 => ?_)
            · skip
              (try simp only [mB_eq0, Decidable.not_not] at c76)
              refine g_ldc (pc := 91) dX8_copy_91 wk_X8_254 ?_
              exact retI (pc := 93) hR dX8_copy_93 (by rw [copR, if_pos ⟨c4, c11⟩, if_neg (fun h => h.elim c38 c46), if_pos c62, if_neg (fun h => c76 h.1)]) (by rw [copD, if_neg]; intro h9; exact c76 h9.2.2.2.1)
            · skip
              (try simp only [mB_eq0, Decidable.not_not] at c76)
              refine al7 (pc := 79) dX8_copy_79 ?_
              refine il4 (pc := 81) dX8_copy_81 ?_
              refine il5 (pc := 83) dX8_copy_83 ?_
              refine cl_X8_251 (pc := 85) (c_X5_spans (hsh (tN v) (by omega)).2) (hsh (tN v) (by omega)).2.1 (by decide) ⟨Nat.zero_le _, Nat.zero_le _⟩ (Nat.le_of_ble_eq_true rfl) dX8_copy_85 ?_
              refine g_ifne 94 (pc := 88) dX8_copy_88 (by decide) (fun c88 => ?_) (fun c88 => ?_)
              · skip
                (try simp only [mB_eq0, Decidable.not_not] at c88)
                refine al6 (pc := 94) dX8_copy_94 ?_
                refine gf_X8_255 (pc := 96) (hsh (tN u) (by omega)).2.1 (hsh (tN u) (by omega)).2.2.1 dX8_copy_96 ?_
                refine il2 (pc := 99) dX8_copy_99 ?_
                refine al7 (pc := 100) dX8_copy_100 ?_
                refine gf_X8_255 (pc := 102) (hsh (tN v) (by omega)).2.1 (hsh (tN v) (by omega)).2.2.1 dX8_copy_102 ?_
                refine il4 (pc := 105) dX8_copy_105 ?_
                refine il5 (pc := 107) dX8_copy_107 ?_
                obtain ⟨z1, hz1, hz2⟩ := hsz (tN u) (by omega)
                obtain ⟨z3, hz3, hz4⟩ := hsz (tN v) (by omega)
                have s1 := c76
                rw [hz2] at s1
                have s2 := c88
                rw [hz4] at s2
                have t1 := spn_nI hz1 s1
                have t2 := spn_nI hz3 s2
                refine g_cpJ (pc := 109) (tN i) (tN j) (tN n) wm_X8_259 (hsh (tN u) (by omega)).2.2.2 (hsh (tN v) (by omega)).2.2.2 t1.1 t2.1 t1.2.1 (by decide) (by decide) (by omega) (by omega) (by decide) (by decide) dX8_copy_109 ?_
                refine il5 (pc := 112) dX8_copy_112 ?_
                exact retI (pc := 114) hR dX8_copy_114 (by rw [copR, if_pos ⟨c4, c11⟩, if_neg (fun h => h.elim c38 c46), if_pos c62, if_pos ⟨c76, c88⟩]) (by rw [copD, if_pos ⟨⟨c4, c11⟩, (fun h => h.elim c38 c46), c62, c76, c88⟩])
              · skip
                (try simp only [mB_eq0, Decidable.not_not] at c88)
                refine g_ldc (pc := 91) dX8_copy_91 wk_X8_254 ?_
                exact retI (pc := 93) hR dX8_copy_93 (by rw [copR, if_pos ⟨c4, c11⟩, if_neg (fun h => h.elim c38 c46), if_pos c62, if_neg (fun h => c88 h.2)]) (by rw [copD, if_neg]; intro h9; exact c88 h9.2.2.2.2)
          · skip
            refine g_ldc (pc := 65) dX8_copy_65 wk_X8_250 ?_
            exact retI (pc := 67) hR dX8_copy_67 (by rw [copR, if_pos ⟨c4, c11⟩, if_neg (fun h => h.elim c38 c46), if_neg c62]) (by rw [copD, if_neg]; intro h9; exact c62 h9.2.2.1)
        · skip
          refine g_ldc (pc := 49) dX8_copy_49 wk_X8_245 ?_
          exact retI (pc := 51) hR dX8_copy_51 (by rw [copR, if_pos ⟨c4, c11⟩, if_pos (Or.inr c46)]) (by rw [copD, if_neg]; intro h9; exact h9.2.1 (Or.inr c46))
    · skip
      (try simp only [mB_eq0, Decidable.not_not] at c11)
      refine g_ldc (pc := 14) dX8_copy_14 wk_X8_65 ?_
      exact retI (pc := 16) hR dX8_copy_16 (by rw [copR, if_neg]; intro h9; simp [h9] at *) (by rw [copD, if_neg]; intro h9; simp [h9.1] at *)
