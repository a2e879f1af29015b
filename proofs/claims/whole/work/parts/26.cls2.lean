theorem gbD_194 (Z : mZ) (d : mD) (t sc pa k : Nat) : gI (gbD Z d t sc pa k) 194 t = nI (k - 1) := by rw [gbD, gI_scBz _ _ _ _ _ _ (by decide) (by decide), gI_eq]
def undR (k : Nat) : Int32 := if k = 0 then -1000004 else nI (k - 1)
def undD (Z : mZ) (d : mD) (t sc pa k : Nat) : mD := if k = 0 then d else gbD Z d t sc pa k
def seeR (o v : Int32) : Int32 := if v < 0 then -1000001 else o
def seeD (d : mD) (sc : Nat) (v : Int32) : mD := if v < 0 then d else sI d 99 sc v
def cbW (k : Int32) (fo fn : Nat → Int32) (b m lk : Int32) : Int32 × Int32 := cbL (dcI k fo fn b m) 1000000 16 0 (atoI k m) lk
def cosR (k : Int32) (fo fn : Nat → Int32) (b m lk : Int32) : Int32 := if wthn b 0 5 ∧ wthn m 0 48 then (cbW k fo fn b m lk).1 else -1000001
def cosD (d : mD) (sr : Nat) (k : Int32) (fo fn : Nat → Int32) (b m : Int32) : mD := if wthn b 0 5 ∧ wthn m 0 48 then sI d 130 sr (cbW k fo fn b m (gI d 130 sr)).2 else d
def rebR (k : Int32) (fo fn : Nat → Int32) (c r : Int32) : Int32 := if inPic c r then pix fo (c + xOfI (beT k fo fn (blkI c r)).1) (r + yOfI (beT k fo fn (blkI c r)).1) else -1000001
def rebD (d : mD) (sr : Nat) (k : Int32) (fo fn : Nat → Int32) (c r : Int32) : mD := if inPic c r then seT d sr (beT k fo fn (blkI c r)) else d
def imaD (Z : mZ) (d : mD) (x st kp sc kc pa kq k : Nat) : mD := sI (stB Z kq pa k 0 (sI (scBz Z d kc sc) 194 kp (nI k))) 258 x 1
def resD (Z : mZ) (d : mD) (st sc kc pa kq k : Nat) : mD := stB Z pa kq k 0 (sI (scBz Z d sc kc) 194 st (nI k))
def alL (k : Int32) (fo fn : Nat → Int32) : Nat → Nat → Int32 → Int32 × Int32 × Int32 × Int32 → Int32 × (Int32 × Int32 × Int32 × Int32)
  | 0, _, a, q => (a, q)
  | n + 1, b, a, _ => alL k fo fn n (b + 1) (a + (beT k fo fn (nI b)).2.1) (beT k fo fn (nI b))
def bqL (k : Int32) (fo fn : Nat → Int32) : Nat → Nat → Int32 → Int32 × Int32 × Int32 × Int32 → Int32 × (Int32 × Int32 × Int32 × Int32)
  | 0, _, a, q => (a, q)
  | n + 1, b, a, _ => bqL k fo fn n (b + 1) (if (quT k fo fn (nI b)).1 = (beT k fo fn (nI b)).1 then a else a ||| (1 : Int32) <<< (nI b &&& 31)) (quT k fo fn (nI b))
def seaT (k : Int32) (fo fn : Nat → Int32) (b w : Int32) : Int32 × Int32 × Int32 × Int32 := if w < 3 then beT k fo fn b else skT k fo fn b
def seaR (q : Int32 × Int32 × Int32 × Int32) (w : Int32) : Int32 := if w < 3 then (if w = 2 then q.2.2.1 else if w = 0 then q.1 else q.2.1) else (if w = 3 then q.2.2.2 else q.2.2.1)
theorem seT_self (d : mD) (sr : Nat) : seT d sr (gI d 128 sr, gI d 129 sr, gI d 130 sr, gI d 131 sr) = d := se_self d sr
def ofX (w : Int32) : Int32 := if w = 8 then 1 else 0
/-- of: by what is asked, when it's within -/
def ofFD (Z : mZ) (d : mD) (sc mo ne sr : Nat) (b w : Int32) : mD := tA (fiD d sr mo (fiT Z d sc mo sr)) ne (foF (fiT Z d sc mo sr).1 (ofX w) (gA (fiD d sr mo (fiT Z d sc mo sr)) ne) (tN b))
def ofH (Z : mZ) (d : mD) (sc ha : Nat) (b : Int32) : Int32 × Int32 := haL (gA d (oA Z sc)) (gA d (nA Z sc)) b (beT (gI d 98 sc) (gA d (oA Z sc)) (gA d (nA Z sc)) b).1 9 0 (gI d 32 ha) 1000000
def ofHD (Z : mZ) (d : mD) (sc ha sr : Nat) (b : Int32) : mD := haD (seT d sr (beT (gI d 98 sc) (gA d (oA Z sc)) (gA d (nA Z sc)) b)) ha (ofH Z d sc ha b).1 (ofH Z d sc ha b).2
def ofR (Z : mZ) (d : mD) (sc mo sr ha : Nat) (b w : Int32) : Int32 := if wthn b 0 5 ∧ wthn w 0 9 then (if w < 8 then (if w < 6 then (if w = 5 then (quT (gI d 98 sc) (gA d (oA Z sc)) (gA d (nA Z sc)) b).1 else seaR (seaT (gI d 98 sc) (gA d (oA Z sc)) (gA d (nA Z sc)) b w) w) else (if w = 6 then (ofH Z d sc ha b).1 else (ofH Z d sc ha b).2)) else foI (fiT Z d sc mo sr).1 (ofX w) (tN b)) else -1000001
def ofD (Z : mZ) (d : mD) (sc mo ne sr ha : Nat) (b w : Int32) : mD := if wthn b 0 5 ∧ wthn w 0 9 then (if w < 8 then (if w < 6 then (if w = 5 then seT d sr (quT (gI d 98 sc) (gA d (oA Z sc)) (gA d (nA Z sc)) b) else seT d sr (seaT (gI d 98 sc) (gA d (oA Z sc)) (gA d (nA Z sc)) b w)) else ofHD Z d sc ha sr b) else ofFD Z d sc mo ne sr b w) else d
theorem gA_fiD (d : mD) (sr mo : Nat) (q : (Nat → Int32) × (Int32 × Int32 × Int32 × Int32)) : gA (fiD d sr mo q) mo = q.1 := by rw [fiD, gA_tA, if_pos rfl]
def couR (Z : mZ) (d : mD) (st sc mo sr : Nat) (w : Int32) : Int32 := if w = 0 then (gI d 98 sc) else if w = 1 then (alL (gI d 98 sc) (gA d (oA Z sc)) (gA d (nA Z sc)) 6 0 0 (gI d 128 sr, gI d 129 sr, gI d 130 sr, gI d 131 sr)).1 else if w = 2 then lenL (fiT Z d sc mo sr).1 6 0 0 else if w = 3 then lacI Z d sc mo sr else if w = 4 then (paL (gI d 98 sc) (gA d (oA Z sc)) (gA d (nA Z sc)) 49 0 (gI d 128 sr) 1000000 (gI d 130 sr)).1 else if w = 5 then (paL (gI d 98 sc) (gA d (oA Z sc)) (gA d (nA Z sc)) 49 0 (gI d 128 sr) 1000000 (gI d 130 sr)).2.1 else if w = 6 then (bqL (gI d 98 sc) (gA d (oA Z sc)) (gA d (nA Z sc)) 6 0 0 (gI d 128 sr, gI d 129 sr, gI d 130 sr, gI d 131 sr)).1 else if w = 7 then gI d 194 st else -1000001
def couD (Z : mZ) (d : mD) (st sc mo ne sr : Nat) (w : Int32) : mD := if w = 0 then d else if w = 1 then seT d sr (alL (gI d 98 sc) (gA d (oA Z sc)) (gA d (nA Z sc)) 6 0 0 (gI d 128 sr, gI d 129 sr, gI d 130 sr, gI d 131 sr)).2 else if w = 2 then tA (fiD d sr mo (fiT Z d sc mo sr)) ne (neL (fiT Z d sc mo sr).1 6 0 (gA (fiD d sr mo (fiT Z d sc mo sr)) ne)) else if w = 3 then fiD d sr mo (fiT Z d sc mo sr) else if w = 4 then paD d sr (paL (gI d 98 sc) (gA d (oA Z sc)) (gA d (nA Z sc)) 49 0 (gI d 128 sr) 1000000 (gI d 130 sr)) else if w = 5 then paD d sr (paL (gI d 98 sc) (gA d (oA Z sc)) (gA d (nA Z sc)) 49 0 (gI d 128 sr) 1000000 (gI d 130 sr)) else if w = 6 then seT d sr (bqL (gI d 98 sc) (gA d (oA Z sc)) (gA d (nA Z sc)) 6 0 0 (gI d 128 sr, gI d 129 sr, gI d 130 sr, gI d 131 sr)).2 else d
theorem c_X8_undo {l : Launch} {G : mG} {Z : mZ} {d : mD} {x st kp tp sr ha fi sp sh sc pa kc kq le dt mo ne : Nat} {k : Nat} (hx : clS Z x st kp tp sr ha fi sp sh sc pa kc kq le dt mo ne) (hp : pst Z d pa) (hk : gI d 194 st = nI k) (hk8 : k ≤ 8) : CtI l G yX8_undo cX8_undo 1 .int 4 122 [.ref x] Z d (undR k) (undD Z d st sc pa k) := by
  obtain ⟨p, q, hs⟩ := hx.scV
  obtain ⟨p2, q2, hs2⟩ := hx.spv
  refine enterI RX8 0 [some (.ref x)] (by decide) rfl (rfl) rfl rfl (fun X hR => ?_)
  refine al0 (pc := 0) dX8_undo_0 ?_
  refine gf_X8_10 (pc := 1) hx.o8 hx.r0 dX8_undo_1 ?_
  refine gf_X8_102 (pc := 4) hx.st.1 dX8_undo_4 ?_
  refine g_ifne 13 (pc := 7) dX8_undo_7 (by decide) (fun c7 => ?_) (fun c7 => ?_)
  · skip
    have hk0 : 0 < k := by rcases Nat.eq_zero_or_pos k with h | h; exact absurd (by rw [hk, h]; rfl) c7; exact h
    refine al0 (pc := 13) dX8_undo_13 ?_
    refine gf_X8_10 (pc := 14) hx.o8 hx.r0 dX8_undo_14 ?_
    refine cl_X8_160 (pc := 17) (c_X6_goBack hx.st hp hk hk8 hk0) hx.st.1 (by decide) ⟨Nat.zero_le _, Nat.zero_le _⟩ (Nat.le_of_ble_eq_true rfl) dX8_undo_17 ?_
    refine al0 (pc := 20) dX8_undo_20 ?_
    refine gf_X8_10 (pc := 21) hx.o8 hx.r0 dX8_undo_21 ?_
    refine gf_X8_102 (pc := 24) hx.st.1 dX8_undo_24 ?_
    exact retI (pc := 27) hR dX8_undo_27 (by rw [gbD_194, undR, if_neg (by omega)]) (by rw [undD, if_neg (by omega)])
  · skip
    have hk0 : k = 0 := by
      rw [hk] at c7
      exact (nI_eq (b := 0) (by omega) (by decide)).mp c7
    refine g_ldc (pc := 10) dX8_undo_10 wk_X8_159 ?_
    exact retI (pc := 12) hR dX8_undo_12 (by rw [undR, if_pos hk0]) (by rw [undD, if_pos hk0])
theorem c_X8_seed {l : Launch} {G : mG} {Z : mZ} {d : mD} {x st kp tp sr ha fi sp sh sc pa kc kq le dt mo ne : Nat} {v : Int32} (hx : clS Z x st kp tp sr ha fi sp sh sc pa kc kq le dt mo ne) : CtI l G yX8_seed cX8_seed 3 .int 0 0 [.ref x, .int v] Z d (seeR (gI d 99 sc) v) (seeD d sc v) := by
  obtain ⟨p, q, hs⟩ := hx.scV
  obtain ⟨p2, q2, hs2⟩ := hx.spv
  refine enterI RX8 1 [some (.ref x), some (.int v), none] (by decide) rfl (rfl) rfl rfl (fun X hR => ?_)
  refine il1 (pc := 0) dX8_seed_0 ?_
  refine g_ifge 7 (pc := 1) dX8_seed_1 (by decide) (fun c1 => ?_) (fun c1 => ?_)
  · skip
    refine al0 (pc := 7) dX8_seed_7 ?_
    refine gf_X8_10 (pc := 8) hx.o8 hx.r0 dX8_seed_8 ?_
    refine gf_X8_82 (pc := 11) hx.st.1 hx.st.2.1 dX8_seed_11 ?_
    refine gf_X8_163 (pc := 14) hs.1 dX8_seed_14 ?_
    refine is2 (pc := 17) dX8_seed_17 rfl ?_
    refine al0 (pc := 18) dX8_seed_18 ?_
    refine gf_X8_10 (pc := 19) hx.o8 hx.r0 dX8_seed_19 ?_
    refine gf_X8_82 (pc := 22) hx.st.1 hx.st.2.1 dX8_seed_22 ?_
    refine il1 (pc := 25) dX8_seed_25 ?_
    refine pf_X8_163 (pc := 26) hs.1 dX8_seed_26 ?_
    refine il2 (pc := 29) dX8_seed_29 ?_
    exact retI (pc := 30) hR dX8_seed_30 (by rw [seeR, if_neg (Int32.not_lt.mpr c1)]) (by rw [seeD, if_neg (Int32.not_lt.mpr c1)])
  · skip
    refine g_ldc (pc := 4) dX8_seed_4 wk_X8_65 ?_
    exact retI (pc := 6) hR dX8_seed_6 (by rw [seeR, if_pos (Int32.not_le.mp c1)]) (by rw [seeD, if_pos (Int32.not_le.mp c1)])
theorem c_X8_cost {l : Launch} {G : mG} {Z : mZ} {d : mD} {x st kp tp sr ha fi sp sh sc pa kc kq le dt mo ne : Nat} {b m : Int32} (hx : clS Z x st kp tp sr ha fi sp sh sc pa kc kq le dt mo ne) : CtI l G yX8_cost cX8_cost 3 .int 4 101 [.ref x, .int b, .int m] Z d (cosR (gI d 98 sc) (gA d (oA Z sc)) (gA d (nA Z sc)) b m (gI d 130 sr)) (cosD d sr (gI d 98 sc) (gA d (oA Z sc)) (gA d (nA Z sc)) b m) := by
  obtain ⟨p, q, hs⟩ := hx.scV
  obtain ⟨p2, q2, hs2⟩ := hx.spv
  refine enterI RX8 0 [some (.ref x), some (.int b), some (.int m)] (by decide) rfl (rfl) rfl rfl (fun X hR => ?_)
  refine il1 (pc := 0) dX8_cost_0 ?_
  refine g_iconst (pc := 1) dX8_cost_1 kc0 ?_
  refine g_iconst (pc := 2) dX8_cost_2 kc5 ?_
  refine cl_X8_105 (pc := 3) (c_X8_isWithin) (by decide) ⟨Nat.zero_le _, Nat.zero_le _⟩ (Nat.le_of_ble_eq_true rfl) dX8_cost_3 ?_
  refine g_ifeq 19 (pc := 6) dX8_cost_6 (by decide) (fun c6 => ?_) (fun c6 => ?_)
  · skip
    (try simp only [mB_eq0, Decidable.not_not] at c6)
    refine g_ldc (pc := 19) dX8_cost_19 wk_X8_65 ?_
    exact retI (pc := 21) hR dX8_cost_21 (by rw [cosR, if_neg]; intro h9; simp [h9] at *) (by rw [cosD, if_neg]; intro h9; simp [h9] at *)
  · skip
    (try simp only [mB_eq0, Decidable.not_not] at c6)
    refine il2 (pc := 9) dX8_cost_9 ?_
    refine g_iconst (pc := 10) dX8_cost_10 kc0 ?_
    refine g_bipush (pc := 11) dX8_cost_11 kb48 ?_
    refine cl_X8_105 (pc := 13) (c_X8_isWithin) (by decide) ⟨Nat.zero_le _, Nat.zero_le _⟩ (Nat.le_of_ble_eq_true rfl) dX8_cost_13 ?_
    refine g_ifne 22 (pc := 16) dX8_cost_16 (by decide) (fun c16 => ?_) (fun c16 => ?_)
    · skip
      (try simp only [mB_eq0, Decidable.not_not] at c16)
      refine al0 (pc := 22) dX8_cost_22 ?_
      refine gf_X8_33 (pc := 23) hx.o8 hx.r4 dX8_cost_23 ?_
      refine al0 (pc := 26) dX8_cost_26 ?_
      refine gf_X8_10 (pc := 27) hx.o8 hx.r0 dX8_cost_27 ?_
      refine gf_X8_82 (pc := 30) hx.st.1 hx.st.2.1 dX8_cost_30 ?_
      refine il1 (pc := 33) dX8_cost_33 ?_
      refine il2 (pc := 34) dX8_cost_34 ?_
      refine cl_X8_166 (pc := 35) (c_X4_wholeCost hx.sr hs) hx.sr (by decide) ⟨Nat.zero_le _, Nat.zero_le _⟩ (Nat.le_of_ble_eq_true rfl) dX8_cost_35 ?_
      exact retI (pc := 38) hR dX8_cost_38 (by rw [cosR, if_pos ⟨c6, c16⟩]; rfl) (by rw [cosD, if_pos ⟨c6, c16⟩]; rfl)
    · skip
      (try simp only [mB_eq0, Decidable.not_not] at c16)
      refine g_ldc (pc := 19) dX8_cost_19 wk_X8_65 ?_
      exact retI (pc := 21) hR dX8_cost_21 (by rw [cosR, if_neg]; intro h9; simp [h9] at *) (by rw [cosD, if_neg]; intro h9; simp [h9] at *)
theorem c_X8_rebuilt {l : Launch} {G : mG} {Z : mZ} {d : mD} {x st kp tp sr ha fi sp sh sc pa kc kq le dt mo ne : Nat} {c r : Int32} (hx : clS Z x st kp tp sr ha fi sp sh sc pa kc kq le dt mo ne) : CtI l G yX8_rebuilt cX8_rebuilt 3 .int 5 128 [.ref x, .int c, .int r] Z d (rebR (gI d 98 sc) (gA d (oA Z sc)) (gA d (nA Z sc)) c r) (rebD d sr (gI d 98 sc) (gA d (oA Z sc)) (gA d (nA Z sc)) c r) := by
  obtain ⟨p, q, hs⟩ := hx.scV
  obtain ⟨p2, q2, hs2⟩ := hx.spv
  refine enterI RX8 0 [some (.ref x), some (.int c), some (.int r)] (by decide) rfl (rfl) rfl rfl (fun X hR => ?_)
  refine il1 (pc := 0) dX8_rebuilt_0 ?_
  refine il2 (pc := 1) dX8_rebuilt_1 ?_
  refine cl_X8_143 (pc := 2) (c_X8_isInPicture) (by decide) ⟨Nat.zero_le _, Nat.zero_le _⟩ (Nat.le_of_ble_eq_true rfl) dX8_rebuilt_2 ?_
  refine g_ifne 11 (pc := 5) dX8_rebuilt_5 (by decide) (fun c5 => ?_) (fun c5 => ?_)
  · skip
    (try simp only [mB_eq0, Decidable.not_not] at c5)
    refine al0 (pc := 11) dX8_rebuilt_11 ?_
    refine gf_X8_33 (pc := 12) hx.o8 hx.r4 dX8_rebuilt_12 ?_
    refine al0 (pc := 15) dX8_rebuilt_15 ?_
    refine gf_X8_10 (pc := 16) hx.o8 hx.r0 dX8_rebuilt_16 ?_
    refine gf_X8_82 (pc := 19) hx.st.1 hx.st.2.1 dX8_rebuilt_19 ?_
    refine il1 (pc := 22) dX8_rebuilt_22 ?_
    refine il2 (pc := 23) dX8_rebuilt_23 ?_
    refine cl_X8_192 (pc := 24) (c_X8_blockAt) (by decide) ⟨Nat.zero_le _, Nat.zero_le _⟩ (Nat.le_of_ble_eq_true rfl) dX8_rebuilt_24 ?_
    refine cl_X8_174 (pc := 27) (c_X4_best hx.sr hs) hx.sr (by decide) ⟨Nat.zero_le _, Nat.zero_le _⟩ (Nat.le_of_ble_eq_true rfl) dX8_rebuilt_27 ?_
    refine al0 (pc := 30) dX8_rebuilt_30 ?_
    refine gf_X8_10 (pc := 31) hx.o8 hx.r0 dX8_rebuilt_31 ?_
    refine gf_X8_82 (pc := 34) hx.st.1 hx.st.2.1 dX8_rebuilt_34 ?_
    refine gf_X8_85 (pc := 37) hs.1 hs.2.1 dX8_rebuilt_37 ?_
    refine il1 (pc := 40) dX8_rebuilt_40 ?_
    refine al0 (pc := 41) dX8_rebuilt_41 ?_
    refine gf_X8_33 (pc := 42) hx.o8 hx.r4 dX8_rebuilt_42 ?_
    refine gf_X8_134 (pc := 45) hx.sr dX8_rebuilt_45 ?_
    rw [gI_seT0]
    refine cl_X8_195 (pc := 48) (c_X8_xOf) (by decide) ⟨Nat.zero_le _, Nat.zero_le _⟩ (Nat.le_of_ble_eq_true rfl) dX8_rebuilt_48 ?_
    refine g_iadd (pc := 51) dX8_rebuilt_51 ?_
    refine il2 (pc := 52) dX8_rebuilt_52 ?_
    refine al0 (pc := 53) dX8_rebuilt_53 ?_
    refine gf_X8_33 (pc := 54) hx.o8 hx.r4 dX8_rebuilt_54 ?_
    refine gf_X8_134 (pc := 57) hx.sr dX8_rebuilt_57 ?_
    rw [gI_seT0]
    refine cl_X8_199 (pc := 60) (c_X8_yOf) (by decide) ⟨Nat.zero_le _, Nat.zero_le _⟩ (Nat.le_of_ble_eq_true rfl) dX8_rebuilt_60 ?_
    refine g_iadd (pc := 63) dX8_rebuilt_63 ?_
    refine cl_X8_109 (pc := 64) (c_X2_at hs.2.2.2.1) hs.2.2.2.1.1 (by decide) ⟨Nat.zero_le _, Nat.zero_le _⟩ (Nat.le_of_ble_eq_true rfl) dX8_rebuilt_64 ?_
    rw [gA_seT]
    exact retI (pc := 67) hR dX8_rebuilt_67 (by rw [rebR, if_pos c5]) (by rw [rebD, if_pos c5])
  · skip
    (try simp only [mB_eq0, Decidable.not_not] at c5)
    refine g_ldc (pc := 8) dX8_rebuilt_8 wk_X8_65 ?_
    exact retI (pc := 10) hR dX8_rebuilt_10 (by rw [rebR, if_neg c5]) (by rw [rebD, if_neg c5])
theorem c_X8_image {l : Launch} {G : mG} {Z : mZ} {d : mD} {x st kp tp sr ha fi sp sh sc pa kc kq le dt mo ne : Nat} {k : Nat} (hx : clS Z x st kp tp sr ha fi sp sh sc pa kc kq le dt mo ne) (hp : pst Z d pa) (hk : gI d 194 st = nI k) (hk8 : k ≤ 8) (hq9 : pst Z d kq) : CtI l G yX8_image cX8_image 1 .int 4 124 [.ref x] Z d 1 (imaD Z d x st kp sc kc pa kq k) := by
  obtain ⟨p, q, hs⟩ := hx.scV
  obtain ⟨p2, q2, hs2⟩ := hx.spv
  refine enterI RX8 0 [some (.ref x)] (by decide) rfl (rfl) rfl rfl (fun X hR => ?_)
  refine al0 (pc := 0) dX8_image_0 ?_
  refine gf_X8_16 (pc := 1) hx.o8 hx.r1 dX8_image_1 ?_
  refine al0 (pc := 4) dX8_image_4 ?_
  refine gf_X8_10 (pc := 5) hx.o8 hx.r0 dX8_image_5 ?_
  refine cl_X8_216 (pc := 8) (c_X6_become hx.kp hx.st hq9 hp hk hk8) hx.kp.1 (by decide) ⟨Nat.zero_le _, Nat.zero_le _⟩ (Nat.le_of_ble_eq_true rfl) dX8_image_8 ?_
  refine al0 (pc := 11) dX8_image_11 ?_
  refine g_iconst (pc := 12) dX8_image_12 kc1 ?_
  refine pf_X8_19 (pc := 13) hx.o8 (by decide) (by decide) dX8_image_13 ?_
  refine g_iconst (pc := 16) dX8_image_16 kc1 ?_
  exact retI (pc := 17) hR dX8_image_17 (rfl) (rfl)
theorem c_X8_restore {l : Launch} {G : mG} {Z : mZ} {d : mD} {x st kp tp sr ha fi sp sh sc pa kc kq le dt mo ne : Nat} {k2 : Nat} (hx : clS Z x st kp tp sr ha fi sp sh sc pa kc kq le dt mo ne) (hp : pst Z d pa) (hq9 : pst Z d kq) (hk2 : gI d 194 kp = nI k2) (hk3 : k2 ≤ 8) : CtI l G yX8_restore cX8_restore 1 .int 4 124 [.ref x] Z d (if gI d 258 x = 0 then -1000004 else 1) (if gI d 258 x = 0 then d else resD Z d st sc kc pa kq k2) := by
  obtain ⟨p, q, hs⟩ := hx.scV
  obtain ⟨p2, q2, hs2⟩ := hx.spv
  refine enterI RX8 0 [some (.ref x)] (by decide) rfl (rfl) rfl rfl (fun X hR => ?_)
  refine al0 (pc := 0) dX8_restore_0 ?_
  refine gf_X8_19 (pc := 1) hx.o8 dX8_restore_1 ?_
  refine g_ifne 10 (pc := 4) dX8_restore_4 (by decide) (fun c4 => ?_) (fun c4 => ?_)
  · skip
    refine al0 (pc := 10) dX8_restore_10 ?_
    refine gf_X8_10 (pc := 11) hx.o8 hx.r0 dX8_restore_11 ?_
    refine al0 (pc := 14) dX8_restore_14 ?_
    refine gf_X8_16 (pc := 15) hx.o8 hx.r1 dX8_restore_15 ?_
    refine cl_X8_216 (pc := 18) (c_X6_become hx.st hx.kp hp hq9 hk2 hk3) hx.st.1 (by decide) ⟨Nat.zero_le _, Nat.zero_le _⟩ (Nat.le_of_ble_eq_true rfl) dX8_restore_18 ?_
    refine g_iconst (pc := 21) dX8_restore_21 kc1 ?_
    exact retI (pc := 22) hR dX8_restore_22 (by rw [if_neg c4]) (by rw [if_neg c4]; rfl)
  · skip
    refine g_ldc (pc := 7) dX8_restore_7 wk_X8_159 ?_
    exact retI (pc := 9) hR dX8_restore_9 (by rw [if_pos c4]) (by rw [if_pos c4])
theorem c_X8_allCosts {l : Launch} {G : mG} {Z : mZ} {d : mD} {x st kp tp sr ha fi sp sh sc pa kc kq le dt mo ne : Nat} (hx : clS Z x st kp tp sr ha fi sp sh sc pa kc kq le dt mo ne) : CtI l G yX8_allCosts cX8_allCosts 3 .int 5 128 [.ref x] Z d (alL (gI d 98 sc) (gA d (oA Z sc)) (gA d (nA Z sc)) 6 0 0 (gI d 128 sr, gI d 129 sr, gI d 130 sr, gI d 131 sr)).1 (seT d sr (alL (gI d 98 sc) (gA d (oA Z sc)) (gA d (nA Z sc)) 6 0 0 (gI d 128 sr, gI d 129 sr, gI d 130 sr, gI d 131 sr)).2) := by
  obtain ⟨p, q, hs⟩ := hx.scV
  obtain ⟨p2, q2, hs2⟩ := hx.spv
  refine enterI RX8 2 [some (.ref x), none, none] (by decide) rfl (rfl) rfl rfl (fun X hR => ?_)
  refine g_iconst (pc := 0) dX8_allCosts_0 kc0 ?_
  refine is1 (pc := 1) dX8_allCosts_1 rfl ?_
  refine g_iconst (pc := 2) dX8_allCosts_2 kc0 ?_
  refine is2 (pc := 3) dX8_allCosts_3 rfl ?_
  have L4 : ∀ (n i : Nat) (a9 : Int32) (q9 : Int32 × Int32 × Int32 × Int32), i + n = 6 → (alL (gI d 98 sc) (gA d (oA Z sc)) (gA d (nA Z sc)) n i a9 q9 = alL (gI d 98 sc) (gA d (oA Z sc)) (gA d (nA Z sc)) 6 0 0 (gI d 128 sr, gI d 129 sr, gI d 130 sr, gI d 131 sr)) → mGo l G (mRm 5 128) X RX8 cX8_allCosts 3 0 0 Z 4 [some (.ref x), some (.int a9), some (.int (nI i))] [] (seT d sr q9) := by
    intro n; induction n with
    | zero =>
      intro i a9 q9 hin4 hF
      refine il2 (pc := 4) dX8_allCosts_4 ?_
      refine g_bipush (pc := 5) dX8_allCosts_5 kb6 ?_
      refine g_icmpge 41 (pc := 7) dX8_allCosts_7 (by decide) (fun c7 => ?_) (fun c7 => absurd (nI_le (a := 6) (by omega) (by omega)) c7)
      refine il1 (pc := 41) dX8_allCosts_41 ?_
      exact retI (pc := 42) hR dX8_allCosts_42 (by rw [← hF]; rfl) (by rw [← hF]; rfl)
    | succ n ih4 =>
      intro i a9 q9 hin4 hF
      refine il2 (pc := 4) dX8_allCosts_4 ?_
      refine g_bipush (pc := 5) dX8_allCosts_5 kb6 ?_
      refine g_icmpge 41 (pc := 7) dX8_allCosts_7 (by decide) (fun c7 => absurd c7 (nI_ge (b := 6) (by omega) (by omega))) (fun c7 => ?_)
      refine al0 (pc := 10) dX8_allCosts_10 ?_
      refine gf_X8_33 (pc := 11) hx.o8 hx.r4 dX8_allCosts_11 ?_
      refine al0 (pc := 14) dX8_allCosts_14 ?_
      refine gf_X8_10 (pc := 15) hx.o8 hx.r0 dX8_allCosts_15 ?_
      refine gf_X8_82 (pc := 18) hx.st.1 hx.st.2.1 dX8_allCosts_18 ?_
      refine il2 (pc := 21) dX8_allCosts_21 ?_
      refine cl_X8_174 (pc := 22) (c_X4_best hx.sr hs) hx.sr (by decide) ⟨Nat.zero_le _, Nat.zero_le _⟩ (Nat.le_of_ble_eq_true rfl) dX8_allCosts_22 ?_
      rw [gI_seT _ _ _ _ (Or.inl (by decide)), gA_seT, gA_seT, seT_seT]
      refine il1 (pc := 25) dX8_allCosts_25 ?_
      refine al0 (pc := 26) dX8_allCosts_26 ?_
      refine gf_X8_33 (pc := 27) hx.o8 hx.r4 dX8_allCosts_27 ?_
      refine gf_X8_137 (pc := 30) hx.sr dX8_allCosts_30 ?_
      rw [gI_seT1]
      refine g_iadd (pc := 33) dX8_allCosts_33 ?_
      refine is1 (pc := 34) dX8_allCosts_34 rfl ?_
      refine ic2 (pc := 35) dX8_allCosts_35 kc1 rfl ?_
      refine g_goto 4 (pc := 38) dX8_allCosts_38 (by decide) ?_
      rw [nI_1]
      exact ih4 (i + 1) _ _ (by omega) hF
  have q8 := L4 6 0 0 (gI d 128 sr, gI d 129 sr, gI d 130 sr, gI d 131 sr) (by omega) rfl
  rw [seT_self] at q8
  exact q8
theorem c_X8_blocksNotQuick {l : Launch} {G : mG} {Z : mZ} {d : mD} {x st kp tp sr ha fi sp sh sc pa kc kq le dt mo ne : Nat} (hx : clS Z x st kp tp sr ha fi sp sh sc pa kc kq le dt mo ne) : CtI l G yX8_blocksNotQuick cX8_blocksNotQuick 4 .int 5 129 [.ref x] Z d (bqL (gI d 98 sc) (gA d (oA Z sc)) (gA d (nA Z sc)) 6 0 0 (gI d 128 sr, gI d 129 sr, gI d 130 sr, gI d 131 sr)).1 (seT d sr (bqL (gI d 98 sc) (gA d (oA Z sc)) (gA d (nA Z sc)) 6 0 0 (gI d 128 sr, gI d 129 sr, gI d 130 sr, gI d 131 sr)).2) := by
  obtain ⟨p, q, hs⟩ := hx.scV
  obtain ⟨p2, q2, hs2⟩ := hx.spv
  refine enterI RX8 3 [some (.ref x), none, none, none] (by decide) rfl (rfl) rfl rfl (fun X hR => ?_)
  refine g_iconst (pc := 0) dX8_blocksNotQuick_0 kc0 ?_
  refine is1 (pc := 1) dX8_blocksNotQuick_1 rfl ?_
  refine g_iconst (pc := 2) dX8_blocksNotQuick_2 kc0 ?_
  refine is2 (pc := 3) dX8_blocksNotQuick_3 rfl ?_
  have L4 : ∀ (n i : Nat) (a9 : Int32) (q9 : Int32 × Int32 × Int32 × Int32), i + n = 6 → (bqL (gI d 98 sc) (gA d (oA Z sc)) (gA d (nA Z sc)) n i a9 q9 = bqL (gI d 98 sc) (gA d (oA Z sc)) (gA d (nA Z sc)) 6 0 0 (gI d 128 sr, gI d 129 sr, gI d 130 sr, gI d 131 sr)) → mGo l G (mRm 5 129) X RX8 cX8_blocksNotQuick 4 0 0 Z 4 [some (.ref x), some (.int a9), some (.int (nI i)), none] [] (seT d sr q9) := by
    intro n; induction n with
    | zero =>
      intro i a9 q9 hin4 hF
      refine il2 (pc := 4) dX8_blocksNotQuick_4 ?_
      refine g_bipush (pc := 5) dX8_blocksNotQuick_5 kb6 ?_
      refine g_icmpge 71 (pc := 7) dX8_blocksNotQuick_7 (by decide) (fun c7 => ?_) (fun c7 => absurd (nI_le (a := 6) (by omega) (by omega)) c7)
      refine il1 (pc := 71) dX8_blocksNotQuick_71 ?_
      exact retI (pc := 72) hR dX8_blocksNotQuick_72 (by rw [← hF]; rfl) (by rw [← hF]; rfl)
    | succ n ih4 =>
      intro i a9 q9 hin4 hF
      refine il2 (pc := 4) dX8_blocksNotQuick_4 ?_
      refine g_bipush (pc := 5) dX8_blocksNotQuick_5 kb6 ?_
      refine g_icmpge 71 (pc := 7) dX8_blocksNotQuick_7 (by decide) (fun c7 => absurd c7 (nI_ge (b := 6) (by omega) (by omega))) (fun c7 => ?_)
      refine al0 (pc := 10) dX8_blocksNotQuick_10 ?_
      refine gf_X8_33 (pc := 11) hx.o8 hx.r4 dX8_blocksNotQuick_11 ?_
      refine al0 (pc := 14) dX8_blocksNotQuick_14 ?_
      refine gf_X8_10 (pc := 15) hx.o8 hx.r0 dX8_blocksNotQuick_15 ?_
      refine gf_X8_82 (pc := 18) hx.st.1 hx.st.2.1 dX8_blocksNotQuick_18 ?_
      refine il2 (pc := 21) dX8_blocksNotQuick_21 ?_
      refine cl_X8_174 (pc := 22) (c_X4_best hx.sr hs) hx.sr (by decide) ⟨Nat.zero_le _, Nat.zero_le _⟩ (Nat.le_of_ble_eq_true rfl) dX8_blocksNotQuick_22 ?_
      rw [gI_seT _ _ _ _ (Or.inl (by decide)), gA_seT, gA_seT, seT_seT]
      refine al0 (pc := 25) dX8_blocksNotQuick_25 ?_
      refine gf_X8_33 (pc := 26) hx.o8 hx.r4 dX8_blocksNotQuick_26 ?_
      refine gf_X8_134 (pc := 29) hx.sr dX8_blocksNotQuick_29 ?_
      rw [gI_seT0]
      refine is3 (pc := 32) dX8_blocksNotQuick_32 rfl ?_
      refine al0 (pc := 33) dX8_blocksNotQuick_33 ?_
      refine gf_X8_33 (pc := 34) hx.o8 hx.r4 dX8_blocksNotQuick_34 ?_
      refine al0 (pc := 37) dX8_blocksNotQuick_37 ?_
      refine gf_X8_10 (pc := 38) hx.o8 hx.r0 dX8_blocksNotQuick_38 ?_
      refine gf_X8_82 (pc := 41) hx.st.1 hx.st.2.1 dX8_blocksNotQuick_41 ?_
      refine il2 (pc := 44) dX8_blocksNotQuick_44 ?_
      refine cl_X8_186 (pc := 45) (c_X4_quick hx.sr hs) hx.sr (by decide) ⟨Nat.zero_le _, Nat.zero_le _⟩ (Nat.le_of_ble_eq_true rfl) dX8_blocksNotQuick_45 ?_
      rw [gI_seT _ _ _ _ (Or.inl (by decide)), gA_seT, gA_seT, seT_seT]
      refine al0 (pc := 48) dX8_blocksNotQuick_48 ?_
      refine gf_X8_33 (pc := 49) hx.o8 hx.r4 dX8_blocksNotQuick_49 ?_
      refine gf_X8_134 (pc := 52) hx.sr dX8_blocksNotQuick_52 ?_
      rw [gI_seT0]
      refine il3 (pc := 55) dX8_blocksNotQuick_55 ?_
      refine g_icmpeq 65 (pc := 56) dX8_blocksNotQuick_56 (by decide) (fun c56 => ?_) (fun c56 => ?_)
      · skip
        refine ic2 (pc := 65) dX8_blocksNotQuick_65 kc1 rfl ?_
        refine g_goto 4 (pc := 68) dX8_blocksNotQuick_68 (by decide) ?_
        rw [nI_1]
        refine dr3 ?_
        exact ih4 (i + 1) _ _ (by omega) (by rw [← hF, bqL, if_pos c56])
      · skip
        refine il1 (pc := 59) dX8_blocksNotQuick_59 ?_
        refine g_iconst (pc := 60) dX8_blocksNotQuick_60 kc1 ?_
        refine il2 (pc := 61) dX8_blocksNotQuick_61 ?_
        refine g_ishl (pc := 62) dX8_blocksNotQuick_62 ?_
        refine g_ior (pc := 63) dX8_blocksNotQuick_63 ?_
        refine is1 (pc := 64) dX8_blocksNotQuick_64 rfl ?_
        refine ic2 (pc := 65) dX8_blocksNotQuick_65 kc1 rfl ?_
        refine g_goto 4 (pc := 68) dX8_blocksNotQuick_68 (by decide) ?_
        rw [nI_1]
        refine dr3 ?_
        exact ih4 (i + 1) _ _ (by omega) (by rw [← hF, bqL, if_neg c56])
  refine dr3 ?_
  have q8 := L4 6 0 0 (gI d 128 sr, gI d 129 sr, gI d 130 sr, gI d 131 sr) (by omega) rfl
  rw [seT_self] at q8
  exact q8
theorem c_X8_searched {l : Launch} {G : mG} {Z : mZ} {d : mD} {x st kp tp sr ha fi sp sh sc pa kc kq le dt mo ne : Nat} {b w : Int32} (hx : clS Z x st kp tp sr ha fi sp sh sc pa kc kq le dt mo ne) : CtI l G yX8_searched cX8_searched 3 .int 5 128 [.ref x, .int b, .int w] Z d (seaR (seaT (gI d 98 sc) (gA d (oA Z sc)) (gA d (nA Z sc)) b w) w) (seT d sr (seaT (gI d 98 sc) (gA d (oA Z sc)) (gA d (nA Z sc)) b w)) := by
  obtain ⟨p, q, hs⟩ := hx.scV
  obtain ⟨p2, q2, hs2⟩ := hx.spv
  refine enterI RX8 0 [some (.ref x), some (.int b), some (.int w)] (by decide) rfl (rfl) rfl rfl (fun X hR => ?_)
  refine il2 (pc := 0) dX8_searched_0 ?_
  refine g_iconst (pc := 1) dX8_searched_1 kc3 ?_
  refine g_icmplt 43 (pc := 2) dX8_searched_2 (by decide) (fun c2 => ?_) (fun c2 => ?_)
  · skip
    have e9 : seaT (gI d 98 sc) (gA d (oA Z sc)) (gA d (nA Z sc)) b w = beT (gI d 98 sc) (gA d (oA Z sc)) (gA d (nA Z sc)) b := if_pos c2
    refine al0 (pc := 43) dX8_searched_43 ?_
    refine gf_X8_33 (pc := 44) hx.o8 hx.r4 dX8_searched_44 ?_
    refine al0 (pc := 47) dX8_searched_47 ?_
    refine gf_X8_10 (pc := 48) hx.o8 hx.r0 dX8_searched_48 ?_
    refine gf_X8_82 (pc := 51) hx.st.1 hx.st.2.1 dX8_searched_51 ?_
    refine il1 (pc := 54) dX8_searched_54 ?_
    refine cl_X8_174 (pc := 55) (c_X4_best hx.sr hs) hx.sr (by decide) ⟨Nat.zero_le _, Nat.zero_le _⟩ (Nat.le_of_ble_eq_true rfl) dX8_searched_55 ?_
    refine il2 (pc := 58) dX8_searched_58 ?_
    refine g_iconst (pc := 59) dX8_searched_59 kc2 ?_
    refine g_icmpne 71 (pc := 60) dX8_searched_60 (by decide) (fun c60 => ?_) (fun c60 => ?_)
    · skip
      refine il2 (pc := 71) dX8_searched_71 ?_
      refine g_ifne 85 (pc := 72) dX8_searched_72 (by decide) (fun c72 => ?_) (fun c72 => ?_)
      · skip
        refine al0 (pc := 85) dX8_searched_85 ?_
        refine gf_X8_33 (pc := 86) hx.o8 hx.r4 dX8_searched_86 ?_
        refine gf_X8_137 (pc := 89) hx.sr dX8_searched_89 ?_
        rw [gI_seT1]
        exact retI (pc := 92) hR dX8_searched_92 (by rw [e9, seaR]; simp [c2, c60, c72]) (by rw [e9])
      · skip
        refine al0 (pc := 75) dX8_searched_75 ?_
        refine gf_X8_33 (pc := 76) hx.o8 hx.r4 dX8_searched_76 ?_
        refine gf_X8_134 (pc := 79) hx.sr dX8_searched_79 ?_
        rw [gI_seT0]
        refine g_goto 92 (pc := 82) dX8_searched_82 (by decide) ?_
        exact retI (pc := 92) hR dX8_searched_92 (by rw [e9, seaR]; simp [c2, c60, c72]) (by rw [e9])
    · skip
      refine al0 (pc := 63) dX8_searched_63 ?_
      refine gf_X8_33 (pc := 64) hx.o8 hx.r4 dX8_searched_64 ?_
      refine gf_X8_271 (pc := 67) hx.sr dX8_searched_67 ?_
      rw [gI_seT2]
      exact retI (pc := 70) hR dX8_searched_70 (by rw [e9, seaR]; simp [c2, c60]) (by rw [e9])
  · skip
    have e9 : seaT (gI d 98 sc) (gA d (oA Z sc)) (gA d (nA Z sc)) b w = skT (gI d 98 sc) (gA d (oA Z sc)) (gA d (nA Z sc)) b := if_neg c2
    refine al0 (pc := 5) dX8_searched_5 ?_
    refine gf_X8_33 (pc := 6) hx.o8 hx.r4 dX8_searched_6 ?_
    refine al0 (pc := 9) dX8_searched_9 ?_
    refine gf_X8_10 (pc := 10) hx.o8 hx.r0 dX8_searched_10 ?_
    refine gf_X8_82 (pc := 13) hx.st.1 hx.st.2.1 dX8_searched_13 ?_
    refine il1 (pc := 16) dX8_searched_16 ?_
    refine cl_X8_265 (pc := 17) (c_X4_skim hx.sr hs) hx.sr (by decide) ⟨Nat.zero_le _, Nat.zero_le _⟩ (Nat.le_of_ble_eq_true rfl) dX8_searched_17 ?_
    refine il2 (pc := 20) dX8_searched_20 ?_
    refine g_iconst (pc := 21) dX8_searched_21 kc3 ?_
    refine g_icmpne 35 (pc := 22) dX8_searched_22 (by decide) (fun c22 => ?_) (fun c22 => ?_)
    · skip
      refine al0 (pc := 35) dX8_searched_35 ?_
      refine gf_X8_33 (pc := 36) hx.o8 hx.r4 dX8_searched_36 ?_
      refine gf_X8_271 (pc := 39) hx.sr dX8_searched_39 ?_
      rw [gI_seT2]
      exact retI (pc := 42) hR dX8_searched_42 (by rw [e9, seaR]; simp [c2, c22]) (by rw [e9])
    · skip
      refine al0 (pc := 25) dX8_searched_25 ?_
      refine gf_X8_33 (pc := 26) hx.o8 hx.r4 dX8_searched_26 ?_
      refine gf_X8_268 (pc := 29) hx.sr dX8_searched_29 ?_
      rw [gI_seT3]
      refine g_goto 42 (pc := 32) dX8_searched_32 (by decide) ?_
      exact retI (pc := 42) hR dX8_searched_42 (by rw [e9, seaR]; simp [c2, c22]) (by rw [e9])
theorem c_X8_of {l : Launch} {G : mG} {Z : mZ} {d : mD} {x st kp tp sr ha fi sp sh sc pa kc kq le dt mo ne : Nat} {b w : Int32} (hx : clS Z x st kp tp sr ha fi sp sh sc pa kc kq le dt mo ne) : CtI l G yX8_of cX8_of 3 .int 6 151 [.ref x, .int b, .int w] Z d (ofR Z d sc mo sr ha b w) (ofD Z d sc mo ne sr ha b w) := by
  obtain ⟨p, q, hs⟩ := hx.scV
  obtain ⟨p2, q2, hs2⟩ := hx.spv
  refine enterI RX8 0 [some (.ref x), some (.int b), some (.int w)] (by decide) rfl (rfl) rfl rfl (fun X hR => ?_)
  refine il1 (pc := 0) dX8_of_0 ?_
  refine g_iconst (pc := 1) dX8_of_1 kc0 ?_
  refine g_iconst (pc := 2) dX8_of_2 kc5 ?_
  refine cl_X8_105 (pc := 3) (c_X8_isWithin) (by decide) ⟨Nat.zero_le _, Nat.zero_le _⟩ (Nat.le_of_ble_eq_true rfl) dX8_of_3 ?_
  refine g_ifeq 19 (pc := 6) dX8_of_6 (by decide) (fun c6 => ?_) (fun c6 => ?_)
  · skip
    (try simp only [mB_eq0, Decidable.not_not] at c6)
    refine g_ldc (pc := 19) dX8_of_19 wk_X8_65 ?_
    exact retI (pc := 21) hR dX8_of_21 (by rw [ofR, if_neg]; intro h9; simp [h9] at *) (by rw [ofD, if_neg]; intro h9; simp [h9] at *)
  · skip
    (try simp only [mB_eq0, Decidable.not_not] at c6)
    refine il2 (pc := 9) dX8_of_9 ?_
    refine g_iconst (pc := 10) dX8_of_10 kc0 ?_
    refine g_bipush (pc := 11) dX8_of_11 kb9 ?_
    refine cl_X8_105 (pc := 13) (c_X8_isWithin) (by decide) ⟨Nat.zero_le _, Nat.zero_le _⟩ (Nat.le_of_ble_eq_true rfl) dX8_of_13 ?_
    refine g_ifne 22 (pc := 16) dX8_of_16 (by decide) (fun c16 => ?_) (fun c16 => ?_)
    · skip
      (try simp only [mB_eq0, Decidable.not_not] at c16)
      refine il2 (pc := 22) dX8_of_22 ?_
      refine g_bipush (pc := 23) dX8_of_23 kb8 ?_
      refine g_icmplt 66 (pc := 25) dX8_of_25 (by decide) (fun c25 => ?_) (fun c25 => ?_)
      · skip
        refine il2 (pc := 66) dX8_of_66 ?_
        refine g_bipush (pc := 67) dX8_of_67 kb6 ?_
        refine g_icmplt 133 (pc := 69) dX8_of_69 (by decide) (fun c69 => ?_) (fun c69 => ?_)
        · skip
          refine il2 (pc := 133) dX8_of_133 ?_
          refine g_iconst (pc := 134) dX8_of_134 kc5 ?_
          refine g_icmpne 161 (pc := 135) dX8_of_135 (by decide) (fun c135 => ?_) (fun c135 => ?_)
          · skip
            refine al0 (pc := 161) dX8_of_161 ?_
            refine il1 (pc := 162) dX8_of_162 ?_
            refine il2 (pc := 163) dX8_of_163 ?_
            refine cl_X8_189 (pc := 164) (c_X8_searched hx) hx.o8 (by decide) ⟨Nat.zero_le _, Nat.zero_le _⟩ (Nat.le_of_ble_eq_true rfl) dX8_of_164 ?_
            exact retI (pc := 167) hR dX8_of_167 (by rw [ofR, if_pos ⟨c6, c16⟩, if_pos c25, if_pos c69, if_neg c135]) (by rw [ofD, if_pos ⟨c6, c16⟩, if_pos c25, if_pos c69, if_neg c135])
          · skip
            refine al0 (pc := 138) dX8_of_138 ?_
            refine gf_X8_33 (pc := 139) hx.o8 hx.r4 dX8_of_139 ?_
            refine al0 (pc := 142) dX8_of_142 ?_
            refine gf_X8_10 (pc := 143) hx.o8 hx.r0 dX8_of_143 ?_
            refine gf_X8_82 (pc := 146) hx.st.1 hx.st.2.1 dX8_of_146 ?_
            refine il1 (pc := 149) dX8_of_149 ?_
            refine cl_X8_186 (pc := 150) (c_X4_quick hx.sr hs) hx.sr (by decide) ⟨Nat.zero_le _, Nat.zero_le _⟩ (Nat.le_of_ble_eq_true rfl) dX8_of_150 ?_
            refine al0 (pc := 153) dX8_of_153 ?_
            refine gf_X8_33 (pc := 154) hx.o8 hx.r4 dX8_of_154 ?_
            refine gf_X8_134 (pc := 157) hx.sr dX8_of_157 ?_
            rw [gI_seT0]
            exact retI (pc := 160) hR dX8_of_160 (by rw [ofR, if_pos ⟨c6, c16⟩, if_pos c25, if_pos c69, if_pos c135]) (by rw [ofD, if_pos ⟨c6, c16⟩, if_pos c25, if_pos c69, if_pos c135])
        · skip
          refine al0 (pc := 72) dX8_of_72 ?_
          refine gf_X8_33 (pc := 73) hx.o8 hx.r4 dX8_of_73 ?_
          refine al0 (pc := 76) dX8_of_76 ?_
          refine gf_X8_10 (pc := 77) hx.o8 hx.r0 dX8_of_77 ?_
          refine gf_X8_82 (pc := 80) hx.st.1 hx.st.2.1 dX8_of_80 ?_
          refine il1 (pc := 83) dX8_of_83 ?_
          refine cl_X8_174 (pc := 84) (c_X4_best hx.sr hs) hx.sr (by decide) ⟨Nat.zero_le _, Nat.zero_le _⟩ (Nat.le_of_ble_eq_true rfl) dX8_of_84 ?_
          refine al0 (pc := 87) dX8_of_87 ?_
          refine gf_X8_40 (pc := 88) hx.o8 hx.r5 dX8_of_88 ?_
          refine al0 (pc := 91) dX8_of_91 ?_
          refine gf_X8_10 (pc := 92) hx.o8 hx.r0 dX8_of_92 ?_
          refine gf_X8_82 (pc := 95) hx.st.1 hx.st.2.1 dX8_of_95 ?_
          refine il1 (pc := 98) dX8_of_98 ?_
          refine al0 (pc := 99) dX8_of_99 ?_
          refine gf_X8_33 (pc := 100) hx.o8 hx.r4 dX8_of_100 ?_
          refine gf_X8_134 (pc := 103) hx.sr dX8_of_103 ?_
          rw [gI_seT0]
          refine cl_X8_178 (pc := 106) (c_X1_look hx.ha hs) hx.ha (by decide) ⟨Nat.zero_le _, Nat.zero_le _⟩ (Nat.le_of_ble_eq_true rfl) dX8_of_106 ?_
          rw [gA_seT, gA_seT, gI_seT _ _ _ _ (Or.inl (by decide)), ← ofH, ← ofHD]
          refine il2 (pc := 109) dX8_of_109 ?_
          refine g_bipush (pc := 110) dX8_of_110 kb6 ?_
          refine g_icmpne 125 (pc := 112) dX8_of_112 (by decide) (fun c112 => ?_) (fun c112 => ?_)
          · skip
            refine al0 (pc := 125) dX8_of_125 ?_
            refine gf_X8_40 (pc := 126) hx.o8 hx.r5 dX8_of_126 ?_
            refine gf_X8_185 (pc := 129) hx.ha dX8_of_129 ?_
            rw [ofHD, gha_33, ← ofHD]
            exact retI (pc := 132) hR dX8_of_132 (by rw [ofR, if_pos ⟨c6, c16⟩, if_pos c25, if_neg c69, if_neg c112]) (by rw [ofD, if_pos ⟨c6, c16⟩, if_pos c25, if_neg c69])
          · skip
            refine al0 (pc := 115) dX8_of_115 ?_
            refine gf_X8_40 (pc := 116) hx.o8 hx.r5 dX8_of_116 ?_
            refine gf_X8_182 (pc := 119) hx.ha dX8_of_119 ?_
            rw [ofHD, gha_32, ← ofHD]
            refine g_goto 132 (pc := 122) dX8_of_122 (by decide) ?_
            exact retI (pc := 132) hR dX8_of_132 (by rw [ofR, if_pos ⟨c6, c16⟩, if_pos c25, if_neg c69, if_pos c112]) (by rw [ofD, if_pos ⟨c6, c16⟩, if_pos c25, if_neg c69])
      · skip
        refine al0 (pc := 28) dX8_of_28 ?_
        refine gf_X8_47 (pc := 29) hx.o8 hx.r6 dX8_of_29 ?_
        refine al0 (pc := 32) dX8_of_32 ?_
        refine gf_X8_10 (pc := 33) hx.o8 hx.r0 dX8_of_33 ?_
        refine gf_X8_82 (pc := 36) hx.st.1 hx.st.2.1 dX8_of_36 ?_
        refine al0 (pc := 39) dX8_of_39 ?_
        refine gf_X8_33 (pc := 40) hx.o8 hx.r4 dX8_of_40 ?_
        refine cl_X8_119 (pc := 43) (c_X0_fill hx.fi hx.sr hs hx.ama hx.bma) hx.fi.1 (by decide) ⟨Nat.zero_le _, Nat.zero_le _⟩ (Nat.le_of_ble_eq_true rfl) dX8_of_43 ?_
        rw [show fiL _ _ _ 6 0 _ _ = fiT Z d sc mo sr from rfl]
        refine al0 (pc := 46) dX8_of_46 ?_
        refine gf_X8_47 (pc := 47) hx.o8 hx.r6 dX8_of_47 ?_
        refine il1 (pc := 50) dX8_of_50 ?_
        refine il2 (pc := 51) dX8_of_51 ?_
        refine g_bipush (pc := 52) dX8_of_52 kb8 ?_
        refine g_icmpne 61 (pc := 54) dX8_of_54 (by decide) (fun c54 => ?_) (fun c54 => ?_)
        · skip
          have e9 : ofX w = 0 := if_neg c54
          refine g_iconst (pc := 61) dX8_of_61 kc0 ?_
          have hb9 := wth_nI 5 (by decide) c6
          rw [hb9.1]
          refine cl_X8_170 (pc := 62) (c_X0_foretold (b := tN b) hx.fi hx.mn (by omega)) hx.fi.1 (by decide) ⟨Nat.zero_le _, Nat.zero_le _⟩ (Nat.le_of_ble_eq_true rfl) dX8_of_62 ?_
          rw [gA_fiD]
          exact retI (pc := 65) hR dX8_of_65 (by rw [ofR, if_pos ⟨c6, c16⟩, if_neg c25, e9]) (by rw [ofD, if_pos ⟨c6, c16⟩, if_neg c25, ofFD, e9])
        · skip
          have e9 : ofX w = 1 := if_pos c54
          refine g_iconst (pc := 57) dX8_of_57 kc1 ?_
          refine g_goto 62 (pc := 58) dX8_of_58 (by decide) ?_
          have hb9 := wth_nI 5 (by decide) c6
          rw [hb9.1]
          refine cl_X8_170 (pc := 62) (c_X0_foretold (b := tN b) hx.fi hx.mn (by omega)) hx.fi.1 (by decide) ⟨Nat.zero_le _, Nat.zero_le _⟩ (Nat.le_of_ble_eq_true rfl) dX8_of_62 ?_
          rw [gA_fiD]
          exact retI (pc := 65) hR dX8_of_65 (by rw [ofR, if_pos ⟨c6, c16⟩, if_neg c25, e9]) (by rw [ofD, if_pos ⟨c6, c16⟩, if_neg c25, ofFD, e9])
    · skip
      (try simp only [mB_eq0, Decidable.not_not] at c16)
      refine g_ldc (pc := 19) dX8_of_19 wk_X8_65 ?_
      exact retI (pc := 21) hR dX8_of_21 (by rw [ofR, if_neg]; intro h9; simp [h9] at *) (by rw [ofD, if_neg]; intro h9; simp [h9] at *)
theorem c_X8_count {l : Launch} {G : mG} {Z : mZ} {d : mD} {x st kp tp sr ha fi sp sh sc pa kc kq le dt mo ne : Nat} {w : Int32} (hx : clS Z x st kp tp sr ha fi sp sh sc pa kc kq le dt mo ne) : CtI l G yX8_count cX8_count 2 .int 6 152 [.ref x, .int w] Z d (couR Z d st sc mo sr w) (couD Z d st sc mo ne sr w) := by
  obtain ⟨p, q, hs⟩ := hx.scV
  obtain ⟨p2, q2, hs2⟩ := hx.spv
  refine enterI RX8 0 [some (.ref x), some (.int w)] (by decide) rfl (rfl) rfl rfl (fun X hR => ?_)
  refine il1 (pc := 0) dX8_count_0 ?_
  by_cases c1_0 : w = 0
  · skip
    refine g_tblIn (pc := 1) 48 dX8_count_1 (by rw [c1_0]; decide) (by rw [c1_0]; decide) (by rw [c1_0]; rfl) (by decide) ?_
    refine al0 (pc := 48) dX8_count_48 ?_
    refine gf_X8_10 (pc := 49) hx.o8 hx.r0 dX8_count_49 ?_
    refine gf_X8_82 (pc := 52) hx.st.1 hx.st.2.1 dX8_count_52 ?_
    refine gf_X8_113 (pc := 55) hs.1 dX8_count_55 ?_
    exact retI (pc := 58) hR dX8_count_58 (by simp [couR, c1_0]) (by simp [couD, c1_0])
  by_cases c1_1 : w = 1
  · skip
    refine g_tblIn (pc := 1) 59 dX8_count_1 (by rw [c1_1]; decide) (by rw [c1_1]; decide) (by rw [c1_1]; rfl) (by decide) ?_
    refine al0 (pc := 59) dX8_count_59 ?_
    refine cl_X8_116 (pc := 60) (c_X8_allCosts hx) hx.o8 (by decide) ⟨Nat.zero_le _, Nat.zero_le _⟩ (Nat.le_of_ble_eq_true rfl) dX8_count_60 ?_
    exact retI (pc := 63) hR dX8_count_63 (by simp [couR, c1_1]) (by simp [couD, c1_1])
  by_cases c1_2 : w = 2
  · skip
    refine g_tblIn (pc := 1) 64 dX8_count_1 (by rw [c1_2]; decide) (by rw [c1_2]; decide) (by rw [c1_2]; rfl) (by decide) ?_
    refine al0 (pc := 64) dX8_count_64 ?_
    refine gf_X8_47 (pc := 65) hx.o8 hx.r6 dX8_count_65 ?_
    refine al0 (pc := 68) dX8_count_68 ?_
    refine gf_X8_10 (pc := 69) hx.o8 hx.r0 dX8_count_69 ?_
    refine gf_X8_82 (pc := 72) hx.st.1 hx.st.2.1 dX8_count_72 ?_
    refine al0 (pc := 75) dX8_count_75 ?_
    refine gf_X8_33 (pc := 76) hx.o8 hx.r4 dX8_count_76 ?_
    refine cl_X8_119 (pc := 79) (c_X0_fill hx.fi hx.sr hs hx.ama hx.bma) hx.fi.1 (by decide) ⟨Nat.zero_le _, Nat.zero_le _⟩ (Nat.le_of_ble_eq_true rfl) dX8_count_79 ?_
    rw [show fiL _ _ _ 6 0 _ _ = fiT Z d sc mo sr from rfl]
    refine al0 (pc := 82) dX8_count_82 ?_
    refine gf_X8_47 (pc := 83) hx.o8 hx.r6 dX8_count_83 ?_
    refine cl_X8_123 (pc := 86) (c_X0_length hx.fi hx.mn) hx.fi.1 (by decide) ⟨Nat.zero_le _, Nat.zero_le _⟩ (Nat.le_of_ble_eq_true rfl) dX8_count_86 ?_
    rw [gA_fiD]
    exact retI (pc := 89) hR dX8_count_89 (by simp [couR, c1_2]) (by simp [couD, c1_2])
  by_cases c1_3 : w = 3
  · skip
    refine g_tblIn (pc := 1) 90 dX8_count_1 (by rw [c1_3]; decide) (by rw [c1_3]; decide) (by rw [c1_3]; rfl) (by decide) ?_
    refine al0 (pc := 90) dX8_count_90 ?_
    refine gf_X8_47 (pc := 91) hx.o8 hx.r6 dX8_count_91 ?_
    refine al0 (pc := 94) dX8_count_94 ?_
    refine gf_X8_10 (pc := 95) hx.o8 hx.r0 dX8_count_95 ?_
    refine gf_X8_82 (pc := 98) hx.st.1 hx.st.2.1 dX8_count_98 ?_
    refine al0 (pc := 101) dX8_count_101 ?_
    refine gf_X8_33 (pc := 102) hx.o8 hx.r4 dX8_count_102 ?_
    refine cl_X8_119 (pc := 105) (c_X0_fill hx.fi hx.sr hs hx.ama hx.bma) hx.fi.1 (by decide) ⟨Nat.zero_le _, Nat.zero_le _⟩ (Nat.le_of_ble_eq_true rfl) dX8_count_105 ?_
    rw [show fiL _ _ _ 6 0 _ _ = fiT Z d sc mo sr from rfl]
    refine al0 (pc := 108) dX8_count_108 ?_
    refine gf_X8_47 (pc := 109) hx.o8 hx.r6 dX8_count_109 ?_
    refine al0 (pc := 112) dX8_count_112 ?_
    refine gf_X8_10 (pc := 113) hx.o8 hx.r0 dX8_count_113 ?_
    refine gf_X8_82 (pc := 116) hx.st.1 hx.st.2.1 dX8_count_116 ?_
    refine cl_X8_126 (pc := 119) (c_X0_lacks hx.fi hs) hx.fi.1 (by decide) ⟨Nat.zero_le _, Nat.zero_le _⟩ (Nat.le_of_ble_eq_true rfl) dX8_count_119 ?_
    rw [lac_fi hx.ama hx.bma]
    exact retI (pc := 122) hR dX8_count_122 (by simp [couR, c1_3]) (by simp [couD, c1_3])
  by_cases c1_4 : w = 4
  · skip
    refine g_tblIn (pc := 1) 123 dX8_count_1 (by rw [c1_4]; decide) (by rw [c1_4]; decide) (by rw [c1_4]; rfl) (by decide) ?_
    refine al0 (pc := 123) dX8_count_123 ?_
    refine gf_X8_33 (pc := 124) hx.o8 hx.r4 dX8_count_124 ?_
    refine al0 (pc := 127) dX8_count_127 ?_
    refine gf_X8_10 (pc := 128) hx.o8 hx.r0 dX8_count_128 ?_
    refine gf_X8_82 (pc := 131) hx.st.1 hx.st.2.1 dX8_count_131 ?_
    refine cl_X8_130 (pc := 134) (c_X4_pan hx.sr hs) hx.sr (by decide) ⟨Nat.zero_le _, Nat.zero_le _⟩ (Nat.le_of_ble_eq_true rfl) dX8_count_134 ?_
    refine al0 (pc := 137) dX8_count_137 ?_
    refine gf_X8_33 (pc := 138) hx.o8 hx.r4 dX8_count_138 ?_
    refine gf_X8_134 (pc := 141) hx.sr dX8_count_141 ?_
    rw [paD, gse_128, ← paD]
    exact retI (pc := 144) hR dX8_count_144 (by simp [couR, c1_4]) (by simp [couD, c1_4])
  by_cases c1_5 : w = 5
  · skip
    refine g_tblIn (pc := 1) 145 dX8_count_1 (by rw [c1_5]; decide) (by rw [c1_5]; decide) (by rw [c1_5]; rfl) (by decide) ?_
    refine al0 (pc := 145) dX8_count_145 ?_
    refine gf_X8_33 (pc := 146) hx.o8 hx.r4 dX8_count_146 ?_
    refine al0 (pc := 149) dX8_count_149 ?_
    refine gf_X8_10 (pc := 150) hx.o8 hx.r0 dX8_count_150 ?_
    refine gf_X8_82 (pc := 153) hx.st.1 hx.st.2.1 dX8_count_153 ?_
    refine cl_X8_130 (pc := 156) (c_X4_pan hx.sr hs) hx.sr (by decide) ⟨Nat.zero_le _, Nat.zero_le _⟩ (Nat.le_of_ble_eq_true rfl) dX8_count_156 ?_
    refine al0 (pc := 159) dX8_count_159 ?_
    refine gf_X8_33 (pc := 160) hx.o8 hx.r4 dX8_count_160 ?_
    refine gf_X8_137 (pc := 163) hx.sr dX8_count_163 ?_
    rw [paD, gse_129, ← paD]
    exact retI (pc := 166) hR dX8_count_166 (by simp [couR, c1_5]) (by simp [couD, c1_5])
  by_cases c1_6 : w = 6
  · skip
    refine g_tblIn (pc := 1) 167 dX8_count_1 (by rw [c1_6]; decide) (by rw [c1_6]; decide) (by rw [c1_6]; rfl) (by decide) ?_
    refine al0 (pc := 167) dX8_count_167 ?_
    refine cl_X8_140 (pc := 168) (c_X8_blocksNotQuick hx) hx.o8 (by decide) ⟨Nat.zero_le _, Nat.zero_le _⟩ (Nat.le_of_ble_eq_true rfl) dX8_count_168 ?_
    exact retI (pc := 171) hR dX8_count_171 (by simp [couR, c1_6]) (by simp [couD, c1_6])
  by_cases c1_7 : w = 7
  · skip
    refine g_tblIn (pc := 1) 172 dX8_count_1 (by rw [c1_7]; decide) (by rw [c1_7]; decide) (by rw [c1_7]; rfl) (by decide) ?_
    refine al0 (pc := 172) dX8_count_172 ?_
    refine gf_X8_10 (pc := 173) hx.o8 hx.r0 dX8_count_173 ?_
    refine gf_X8_102 (pc := 176) hx.st.1 dX8_count_176 ?_
    exact retI (pc := 179) hR dX8_count_179 (by simp [couR, c1_7]) (by simp [couD, c1_7])
  refine g_tblOut (pc := 1) 180 dX8_count_1 (by have q0 := lv_neT c1_0 (k := 0) (a := 0) (by decide); have q1 := lv_neT c1_1 (k := 1) (a := 1) (by decide); have q2 := lv_neT c1_2 (k := 2) (a := 2) (by decide); have q3 := lv_neT c1_3 (k := 3) (a := 3) (by decide); have q4 := lv_neT c1_4 (k := 4) (a := 4) (by decide); have q5 := lv_neT c1_5 (k := 5) (a := 5) (by decide); have q6 := lv_neT c1_6 (k := 6) (a := 6) (by decide); have q7 := lv_neT c1_7 (k := 7) (a := 7) (by decide); omega) (by decide) ?_
  refine g_ldc (pc := 180) dX8_count_180 wk_X8_65 ?_
  exact retI (pc := 182) hR dX8_count_182 (by simp [couR, c1_0, c1_1, c1_2, c1_3, c1_4, c1_5, c1_6, c1_7]) (by simp [couD, c1_0, c1_1, c1_2, c1_3, c1_4, c1_5, c1_6, c1_7])
