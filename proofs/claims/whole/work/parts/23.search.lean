theorem gI_ne {f g : Nat} (h : g ≠ f) (d : mD) (a b : Nat) (v : Int32) : gI (sI d f a v) g b = gI d g b := by rw [gI_sI, if_neg (fun q => h q.1)]
theorem gI_eq (d : mD) (f a : Nat) (v : Int32) : gI (sI d f a v) f a = v := by rw [gI_sI, if_pos ⟨rfl, rfl⟩]
abbrev edgP (i : Int32) : Prop := mRem i 4 = 0 ∨ mRem i 4 = 3 ∨ i / 4 = 0 ∨ i / 4 = 3
def dotcI (k far i : Int32) : Int32 := if k = 1 then far * far else if k = 2 then (if edgP i then 2 * far else far) else if k = 4 then mMin 9 (far * far) else far
abbrev nearP (m mid rc : Int32) : Prop := mAbs (xOfI m - xOfI mid) ≤ rc ∧ mAbs (yOfI m - yOfI mid) ≤ rc
/-- how far dot i of a block is from that in OLD by a move, with its sign -/
def dfI (fo fn : Nat → Int32) (b m i : Int32) : Int32 := pix fn (colI b + mRem i 4) (rowI b + i / 4) - pix fo (colI b + mRem i 4 + xOfI m) (rowI b + i / 4 + yOfI m)
def dcI (k : Int32) (fo fn : Nat → Int32) (b m i : Int32) : Int32 := dotcI k (mAbs (dfI fo fn b m i)) i
def atoI (k m : Int32) : Int32 := if k = 3 then 2 * farI m else 0
def cbL (g : Int32 → Int32) (lim : Int32) : Nat → Nat → Int32 → Int32 → Int32 × Int32
  | 0, _, s, lk => (s, lk)
  | n + 1, i, s, lk => if lim ≤ s then (s, lk) else cbL g lim n (i + 1) (s + g (nI i)) (lk + 1)
def accL (g : Int32 → Int32) : Nat → Nat → Int32 → Int32
  | 0, _, s => s
  | n + 1, i, s => accL g n (i + 1) (s + g (nI i))
def smaI (k : Int32) (fo fn : Nat → Int32) (b m : Int32) : Int32 := if k = 1 ∨ k = 4 then -1 else mAbs (accL (dfI fo fn b m) 16 0 0)
def sdI (fo fn : Nat → Int32) (b m i : Int32) : Int32 := mAbs (hpix fn (colI b / 2 + mRem i 2) (rowI b / 2 + i / 2) - hpix fo (colI b / 2 + mRem i 2 + xOfI m) (rowI b / 2 + i / 2 + yOfI m))
def argL (c : Int32 → Int32) (p : Int32 → Bool) : Nat → Nat → Int32 → Int32 → Int32 × Int32
  | 0, _, le, fo => (le, fo)
  | n + 1, i, le, fo => if p (ordF i) = true then (if c (ordF i) < le then argL c p n (i + 1) (c (ordF i)) (ordF i) else argL c p n (i + 1) le fo) else argL c p n (i + 1) le fo
def smvI (fo fn : Nat → Int32) (b : Int32) : Int32 := (argL (fun m => accL (sdI fo fn b m) 4 0 0) (fun m => decide (nearP m 24 1)) 49 0 1000000 24).2
/-- moves tried in their order: the move, what it costs, dots looked at, moves left out -/
def tmL (k : Int32) (fo fn : Nat → Int32) (b mid rc bs : Int32) : Nat → Nat → Int32 → Int32 → Int32 → Int32 → Int32 × Int32 × Int32 × Int32
  | 0, _, mv, co, lk, lo => (mv, co, lk, lo)
  | n + 1, i, mv, co, lk, lo =>
    if nearP (ordF i) mid rc then
      (if ¬ bs = 0 ∧ co ≤ smaI k fo fn b (ordF i) then tmL k fo fn b mid rc bs n (i + 1) mv co lk (lo + 1)
       else if (cbL (dcI k fo fn b (ordF i)) co 16 0 (atoI k (ordF i)) lk).1 < co then tmL k fo fn b mid rc bs n (i + 1) (ordF i) (cbL (dcI k fo fn b (ordF i)) co 16 0 (atoI k (ordF i)) lk).1 (cbL (dcI k fo fn b (ordF i)) co 16 0 (atoI k (ordF i)) lk).2 lo
       else tmL k fo fn b mid rc bs n (i + 1) mv co (cbL (dcI k fo fn b (ordF i)) co 16 0 (atoI k (ordF i)) lk).2 lo)
    else tmL k fo fn b mid rc bs n (i + 1) mv co lk lo
def seD (d : mD) (sr : Nat) (mv co lk lo : Int32) : mD := sI (sI (sI (sI d 128 sr mv) 129 sr co) 130 sr lk) 131 sr lo
def seT (d : mD) (sr : Nat) (q : Int32 × Int32 × Int32 × Int32) : mD := seD d sr q.1 q.2.1 q.2.2.1 q.2.2.2
theorem mD_ext {d e : mD} (h1 : ∀ f a, gI d f a = gI e f a) (h2 : ∀ a, gA d a = gA e a) (h3 : ∀ a, gJ d a = gJ e a) (h4 : ∀ a, gO d a = gO e a) : d = e := by
  obtain ⟨a1, a2, a3, a4⟩ := d
  obtain ⟨b1, b2, b3, b4⟩ := e
  simp only [gI, gA, gJ, gO] at h1 h2 h3 h4
  rw [show a1 = b1 from funext fun f => funext fun a => h1 f a, show a2 = b2 from funext h2, show a3 = b3 from funext h3, show a4 = b4 from funext h4]
theorem se_128 (d : mD) (sr : Nat) (mv co lk lo v : Int32) : sI (seD d sr mv co lk lo) 128 sr v = seD d sr v co lk lo := by
  refine mD_ext (fun f a => ?_) (fun _ => rfl) (fun _ => rfl) (fun _ => rfl)
  simp only [seD, gI_sI]
  by_cases h : a = sr <;> by_cases h1 : f = 128 <;> by_cases h2 : f = 129 <;> by_cases h3 : f = 130 <;> by_cases h4 : f = 131 <;> simp_all
theorem se_129 (d : mD) (sr : Nat) (mv co lk lo v : Int32) : sI (seD d sr mv co lk lo) 129 sr v = seD d sr mv v lk lo := by
  refine mD_ext (fun f a => ?_) (fun _ => rfl) (fun _ => rfl) (fun _ => rfl)
  simp only [seD, gI_sI]
  by_cases h : a = sr <;> by_cases h1 : f = 128 <;> by_cases h2 : f = 129 <;> by_cases h3 : f = 130 <;> by_cases h4 : f = 131 <;> simp_all
theorem se_130 (d : mD) (sr : Nat) (mv co lk lo v : Int32) : sI (seD d sr mv co lk lo) 130 sr v = seD d sr mv co v lo := by
  refine mD_ext (fun f a => ?_) (fun _ => rfl) (fun _ => rfl) (fun _ => rfl)
  simp only [seD, gI_sI]
  by_cases h : a = sr <;> by_cases h1 : f = 128 <;> by_cases h2 : f = 129 <;> by_cases h3 : f = 130 <;> by_cases h4 : f = 131 <;> simp_all
theorem se_131 (d : mD) (sr : Nat) (mv co lk lo v : Int32) : sI (seD d sr mv co lk lo) 131 sr v = seD d sr mv co lk v := sI_sI _ _ _ _ _
theorem gse_128 (d : mD) (sr : Nat) (mv co lk lo : Int32) : gI (seD d sr mv co lk lo) 128 sr = mv := by simp [seD, gI_sI]
theorem gse_129 (d : mD) (sr : Nat) (mv co lk lo : Int32) : gI (seD d sr mv co lk lo) 129 sr = co := by simp [seD, gI_sI]
theorem gse_130 (d : mD) (sr : Nat) (mv co lk lo : Int32) : gI (seD d sr mv co lk lo) 130 sr = lk := by simp [seD, gI_sI]
theorem gse_131 (d : mD) (sr : Nat) (mv co lk lo : Int32) : gI (seD d sr mv co lk lo) 131 sr = lo := by simp [seD, gI_sI]
theorem gse_ne (d : mD) (sr : Nat) (mv co lk lo : Int32) {f : Nat} (b : Nat) (h : f < 128 ∨ 131 < f) : gI (seD d sr mv co lk lo) f b = gI d f b := by
  simp only [seD]; rw [gI_ne (by omega), gI_ne (by omega), gI_ne (by omega), gI_ne (by omega)]
theorem gA_se (d : mD) (sr : Nat) (mv co lk lo : Int32) (b : Nat) : gA (seD d sr mv co lk lo) b = gA d b := rfl
theorem se_se (d : mD) (sr : Nat) (a1 a2 a3 a4 mv co lk lo : Int32) : seD (seD d sr a1 a2 a3 a4) sr mv co lk lo = seD d sr mv co lk lo := by
  rw [seD, se_128, se_129, se_130, se_131]
theorem se_self (d : mD) (sr : Nat) : seD d sr (gI d 128 sr) (gI d 129 sr) (gI d 130 sr) (gI d 131 sr) = d := by
  refine mD_ext (fun f a => ?_) (fun _ => rfl) (fun _ => rfl) (fun _ => rfl)
  simp only [seD, gI_sI]
  by_cases h : a = sr <;> by_cases h1 : f = 128 <;> by_cases h2 : f = 129 <;> by_cases h3 : f = 130 <;> by_cases h4 : f = 131 <;> simp_all
/-- the best move of a block as the search tells it; as it does by sums; as it does quickly -/
def beT (k : Int32) (fo fn : Nat → Int32) (b : Int32) : Int32 × Int32 × Int32 × Int32 := tmL k fo fn b 24 3 0 49 0 24 1000000 0 0
def skT (k : Int32) (fo fn : Nat → Int32) (b : Int32) : Int32 × Int32 × Int32 × Int32 := tmL k fo fn b 24 3 1 49 0 24 1000000 0 0
def quM (fo fn : Nat → Int32) (b : Int32) : Int32 := movI (2 * xOfI (smvI fo fn b)) (2 * yOfI (smvI fo fn b))
def quT (k : Int32) (fo fn : Nat → Int32) (b : Int32) : Int32 × Int32 × Int32 × Int32 := tmL k fo fn b (quM fo fn b) 1 0 49 0 (quM fo fn b) 1000000 0 0
def paI (k : Int32) (fo fn : Nat → Int32) (m : Int32) : Nat → Nat → Int32 → Int32 → Int32 × Int32
  | 0, _, s, lk => (s, lk)
  | n + 1, b, s, lk => paI k fo fn m n (b + 1) (s + (cbL (dcI k fo fn (nI b) m) 1000000 16 0 (atoI k m) lk).1) (cbL (dcI k fo fn (nI b) m) 1000000 16 0 (atoI k m) lk).2
def paL (k : Int32) (fo fn : Nat → Int32) : Nat → Nat → Int32 → Int32 → Int32 → Int32 × Int32 × Int32
  | 0, _, mv, co, lk => (mv, co, lk)
  | n + 1, i, mv, co, lk => if (paI k fo fn (ordF i) 6 0 0 lk).1 < co then paL k fo fn n (i + 1) (ordF i) (paI k fo fn (ordF i) 6 0 0 lk).1 (paI k fo fn (ordF i) 6 0 0 lk).2 else paL k fo fn n (i + 1) mv co (paI k fo fn (ordF i) 6 0 0 lk).2
def paD (d : mD) (sr : Nat) (q : Int32 × Int32 × Int32) : mD := seD d sr q.1 q.2.1 q.2.2 (gI d 131 sr)
theorem gI_seT (d : mD) (sr : Nat) (q : Int32 × Int32 × Int32 × Int32) {f : Nat} (b : Nat) (h : f < 128 ∨ 131 < f) : gI (seT d sr q) f b = gI d f b := gse_ne _ _ _ _ _ _ _ h
theorem gI_seT0 (d : mD) (sr : Nat) (q : Int32 × Int32 × Int32 × Int32) : gI (seT d sr q) 128 sr = q.1 := gse_128 _ _ _ _ _ _
theorem gI_seT1 (d : mD) (sr : Nat) (q : Int32 × Int32 × Int32 × Int32) : gI (seT d sr q) 129 sr = q.2.1 := gse_129 _ _ _ _ _ _
theorem gI_seT2 (d : mD) (sr : Nat) (q : Int32 × Int32 × Int32 × Int32) : gI (seT d sr q) 130 sr = q.2.2.1 := gse_130 _ _ _ _ _ _
theorem gI_seT3 (d : mD) (sr : Nat) (q : Int32 × Int32 × Int32 × Int32) : gI (seT d sr q) 131 sr = q.2.2.2 := gse_131 _ _ _ _ _ _
theorem gA_seT (d : mD) (sr : Nat) (q : Int32 × Int32 × Int32 × Int32) (b : Nat) : gA (seT d sr q) b = gA d b := rfl
theorem gJ_seT (d : mD) (sr : Nat) (q : Int32 × Int32 × Int32 × Int32) (b : Nat) : gJ (seT d sr q) b = gJ d b := rfl
theorem gO_seT (d : mD) (sr : Nat) (q : Int32 × Int32 × Int32 × Int32) (b : Nat) : gO (seT d sr q) b = gO d b := rfl
theorem seT_tA (d : mD) (sr mo : Nat) (g : Nat → Int32) (q : Int32 × Int32 × Int32 × Int32) : seT (tA d mo g) sr q = tA (seT d sr q) mo g := rfl
theorem seT_seT (d : mD) (sr : Nat) (q r : Int32 × Int32 × Int32 × Int32) : seT (seT d sr r) sr q = seT d sr q := se_se _ _ _ _ _ _ _ _ _ _
theorem c_X4_isAtEdge {l : Launch} {G : mG} {Z : mZ} {d : mD} {i : Int32} : CtI l G yX4_isAtEdge cX4_isAtEdge 3 .boolean 0 0 [.int i] Z d (mB (edgP i)) d := by
  refine enterI RX4 2 [some (.int i), none, none] (by decide) rfl (narB _) rfl rfl (fun X hR => ?_)
  refine il0 (pc := 0) dX4_isAtEdge_0 ?_
  refine g_iconst (pc := 1) dX4_isAtEdge_1 kc4 ?_
  refine g_irem (pc := 2) dX4_isAtEdge_2 (by decide) ?_
  refine is1 (pc := 3) dX4_isAtEdge_3 rfl ?_
  refine il0 (pc := 4) dX4_isAtEdge_4 ?_
  refine g_iconst (pc := 5) dX4_isAtEdge_5 kc4 ?_
  refine g_idiv (pc := 6) dX4_isAtEdge_6 (by decide) ?_
  refine is2 (pc := 7) dX4_isAtEdge_7 rfl ?_
  refine il1 (pc := 8) dX4_isAtEdge_8 ?_
  refine g_ifeq 26 (pc := 9) dX4_isAtEdge_9 (by decide) (fun c9 => ?_) (fun c9 => ?_)
  · skip
    refine g_iconst (pc := 26) dX4_isAtEdge_26 kc1 ?_
    refine g_goto 31 (pc := 27) dX4_isAtEdge_27 (by decide) ?_
    exact retI (pc := 31) hR dX4_isAtEdge_31 (by simp [mB, edgP, c9]) (rfl)
  · skip
    refine il1 (pc := 12) dX4_isAtEdge_12 ?_
    refine g_iconst (pc := 13) dX4_isAtEdge_13 kc3 ?_
    refine g_icmpeq 26 (pc := 14) dX4_isAtEdge_14 (by decide) (fun c14 => ?_) (fun c14 => ?_)
    · skip
      refine g_iconst (pc := 26) dX4_isAtEdge_26 kc1 ?_
      refine g_goto 31 (pc := 27) dX4_isAtEdge_27 (by decide) ?_
      exact retI (pc := 31) hR dX4_isAtEdge_31 (by simp [mB, edgP, c9, c14]) (rfl)
    · skip
      refine il2 (pc := 17) dX4_isAtEdge_17 ?_
      refine g_ifeq 26 (pc := 18) dX4_isAtEdge_18 (by decide) (fun c18 => ?_) (fun c18 => ?_)
      · skip
        refine g_iconst (pc := 26) dX4_isAtEdge_26 kc1 ?_
        refine g_goto 31 (pc := 27) dX4_isAtEdge_27 (by decide) ?_
        exact retI (pc := 31) hR dX4_isAtEdge_31 (by simp [mB, edgP, c9, c14, c18]) (rfl)
      · skip
        refine il2 (pc := 21) dX4_isAtEdge_21 ?_
        refine g_iconst (pc := 22) dX4_isAtEdge_22 kc3 ?_
        refine g_icmpne 30 (pc := 23) dX4_isAtEdge_23 (by decide) (fun c23 => ?_) (fun c23 => ?_)
        · skip
          refine g_iconst (pc := 30) dX4_isAtEdge_30 kc0 ?_
          exact retI (pc := 31) hR dX4_isAtEdge_31 (by simp [mB, edgP, c9, c14, c18, c23]) (rfl)
        · skip
          refine g_iconst (pc := 26) dX4_isAtEdge_26 kc1 ?_
          refine g_goto 31 (pc := 27) dX4_isAtEdge_27 (by decide) ?_
          exact retI (pc := 31) hR dX4_isAtEdge_31 (by simp [mB, edgP, c9, c14, c18, c23]) (rfl)
theorem c_X4_dotCost {l : Launch} {G : mG} {Z : mZ} {d : mD} {k far i : Int32} : CtI l G yX4_dotCost cX4_dotCost 3 .int 1 22 [.int k, .int far, .int i] Z d (dotcI k far i) d := by
  refine enterI RX4 0 [some (.int k), some (.int far), some (.int i)] (by decide) rfl (rfl) rfl rfl (fun X hR => ?_)
  refine il0 (pc := 0) dX4_dotCost_0 ?_
  by_cases c1_1 : k = 1
  · skip
    refine g_tblIn (pc := 1) 32 dX4_dotCost_1 (by rw [c1_1]; decide) (by rw [c1_1]; decide) (by rw [c1_1]; rfl) (by decide) ?_
    refine il1 (pc := 32) dX4_dotCost_32 ?_
    refine il1 (pc := 33) dX4_dotCost_33 ?_
    refine g_imul (pc := 34) dX4_dotCost_34 ?_
    exact retI (pc := 35) hR dX4_dotCost_35 (by (try simp only [mB_eq0, mB_ne0] at c1_1); simp [dotcI, c1_1]) (rfl)
  by_cases c1_2 : k = 2
  · skip
    refine g_tblIn (pc := 1) 36 dX4_dotCost_1 (by rw [c1_2]; decide) (by rw [c1_2]; decide) (by rw [c1_2]; rfl) (by decide) ?_
    refine il2 (pc := 36) dX4_dotCost_36 ?_
    refine cl_X4_98 (pc := 37) (c_X4_isAtEdge) (by decide) ⟨Nat.zero_le _, Nat.zero_le _⟩ (Nat.le_of_ble_eq_true rfl) dX4_dotCost_37 ?_
    refine g_ifeq 49 (pc := 40) dX4_dotCost_40 (by decide) (fun c40 => ?_) (fun c40 => ?_)
    · skip
      refine il1 (pc := 49) dX4_dotCost_49 ?_
      exact retI (pc := 50) hR dX4_dotCost_50 (by (try simp only [mB_eq0, mB_ne0] at c1_2 c40); simp [dotcI, c1_2, c40]) (rfl)
    · skip
      refine g_iconst (pc := 43) dX4_dotCost_43 kc2 ?_
      refine il1 (pc := 44) dX4_dotCost_44 ?_
      refine g_imul (pc := 45) dX4_dotCost_45 ?_
      refine g_goto 50 (pc := 46) dX4_dotCost_46 (by decide) ?_
      exact retI (pc := 50) hR dX4_dotCost_50 (by (try simp only [mB_eq0, mB_ne0] at c1_2 c40); simp [dotcI, c1_2, c40]) (rfl)
  by_cases c1_3 : k = 3
  · skip
    refine g_tblIn (pc := 1) 60 dX4_dotCost_1 (by rw [c1_3]; decide) (by rw [c1_3]; decide) (by rw [c1_3]; rfl) (by decide) ?_
    refine il1 (pc := 60) dX4_dotCost_60 ?_
    exact retI (pc := 61) hR dX4_dotCost_61 (by (try simp only [mB_eq0, mB_ne0] at c1_3); simp [dotcI, c1_3]) (rfl)
  by_cases c1_4 : k = 4
  · skip
    refine g_tblIn (pc := 1) 51 dX4_dotCost_1 (by rw [c1_4]; decide) (by rw [c1_4]; decide) (by rw [c1_4]; rfl) (by decide) ?_
    refine g_bipush (pc := 51) dX4_dotCost_51 kb9 ?_
    refine il1 (pc := 53) dX4_dotCost_53 ?_
    refine il1 (pc := 54) dX4_dotCost_54 ?_
    refine g_imul (pc := 55) dX4_dotCost_55 ?_
    refine cl_X4_102 (pc := 56) (by decide) (Nat.le_of_ble_eq_true rfl) ⟨Nat.zero_le _, Nat.zero_le _⟩ dX4_dotCost_56 ?_
    exact retI (pc := 59) hR dX4_dotCost_59 (by (try simp only [mB_eq0, mB_ne0] at c1_4); simp [dotcI, c1_4]) (rfl)
  refine g_tblOut (pc := 1) 60 dX4_dotCost_1 (by have q1 := lv_neT c1_1 (k := 1) (a := 1) (by decide); have q2 := lv_neT c1_2 (k := 2) (a := 2) (by decide); have q3 := lv_neT c1_3 (k := 3) (a := 3) (by decide); have q4 := lv_neT c1_4 (k := 4) (a := 4) (by decide); omega) (by decide) ?_
  refine il1 (pc := 60) dX4_dotCost_60 ?_
  exact retI (pc := 61) hR dX4_dotCost_61 (by (try simp only [mB_eq0, mB_ne0] at c1_1 c1_2 c1_3 c1_4); simp [dotcI, c1_1, c1_2, c1_3, c1_4]) (rfl)
theorem c_X4_isNear {l : Launch} {G : mG} {Z : mZ} {d : mD} {m mid rc : Int32} : CtI l G yX4_isNear cX4_isNear 3 .boolean 1 21 [.int m, .int mid, .int rc] Z d (mB (nearP m mid rc)) d := by
  refine enterI RX4 0 [some (.int m), some (.int mid), some (.int rc)] (by decide) rfl (narB _) rfl rfl (fun X hR => ?_)
  refine il0 (pc := 0) dX4_isNear_0 ?_
  refine cl_X4_32 (pc := 1) (c_X8_xOf) (by decide) ⟨Nat.zero_le _, Nat.zero_le _⟩ (Nat.le_of_ble_eq_true rfl) dX4_isNear_1 ?_
  refine il1 (pc := 4) dX4_isNear_4 ?_
  refine cl_X4_32 (pc := 5) (c_X8_xOf) (by decide) ⟨Nat.zero_le _, Nat.zero_le _⟩ (Nat.le_of_ble_eq_true rfl) dX4_isNear_5 ?_
  refine g_isub (pc := 8) dX4_isNear_8 ?_
  refine cl_X4_89 (pc := 9) (by decide) (Nat.le_of_ble_eq_true rfl) ⟨Nat.zero_le _, Nat.zero_le _⟩ dX4_isNear_9 ?_
  refine il2 (pc := 12) dX4_isNear_12 ?_
  refine g_icmpgt 36 (pc := 13) dX4_isNear_13 (by decide) (fun c13 => ?_) (fun c13 => ?_)
  · skip
    refine g_iconst (pc := 36) dX4_isNear_36 kc0 ?_
    exact retI (pc := 37) hR dX4_isNear_37 (by simp [mB, nearP, ← Int32.not_lt, c13]) (rfl)
  · skip
    refine il0 (pc := 16) dX4_isNear_16 ?_
    refine cl_X4_36 (pc := 17) (c_X8_yOf) (by decide) ⟨Nat.zero_le _, Nat.zero_le _⟩ (Nat.le_of_ble_eq_true rfl) dX4_isNear_17 ?_
    refine il1 (pc := 20) dX4_isNear_20 ?_
    refine cl_X4_36 (pc := 21) (c_X8_yOf) (by decide) ⟨Nat.zero_le _, Nat.zero_le _⟩ (Nat.le_of_ble_eq_true rfl) dX4_isNear_21 ?_
    refine g_isub (pc := 24) dX4_isNear_24 ?_
    refine cl_X4_89 (pc := 25) (by decide) (Nat.le_of_ble_eq_true rfl) ⟨Nat.zero_le _, Nat.zero_le _⟩ dX4_isNear_25 ?_
    refine il2 (pc := 28) dX4_isNear_28 ?_
    refine g_icmpgt 36 (pc := 29) dX4_isNear_29 (by decide) (fun c29 => ?_) (fun c29 => ?_)
    · skip
      refine g_iconst (pc := 36) dX4_isNear_36 kc0 ?_
      exact retI (pc := 37) hR dX4_isNear_37 (by simp [mB, nearP, ← Int32.not_lt, c13, c29]) (rfl)
    · skip
      refine g_iconst (pc := 32) dX4_isNear_32 kc1 ?_
      refine g_goto 37 (pc := 33) dX4_isNear_33 (by decide) ?_
      exact retI (pc := 37) hR dX4_isNear_37 (by simp [mB, nearP, ← Int32.not_lt, c13, c29]) (rfl)
theorem c_X4_sumsApart {l : Launch} {G : mG} {Z : mZ} {d : mD} {s p q a b : Nat} {bk m : Int32} (hs : scn Z s p q a b) : CtI l G yX4_sumsApart cX4_sumsApart 7 .int 2 45 [.ref s, .int bk, .int m] Z d (smaI (gI d 98 s) (gA d a) (gA d b) bk m) d := by
  refine enterI RX4 4 [some (.ref s), some (.int bk), some (.int m), none, none, none, none] (by decide) rfl (rfl) rfl rfl (fun X hR => ?_)
  refine al0 (pc := 0) dX4_sumsApart_0 ?_
  refine gf_X4_69 (pc := 1) hs.1 dX4_sumsApart_1 ?_
  refine g_iconst (pc := 4) dX4_sumsApart_4 kc1 ?_
  refine g_icmpeq 16 (pc := 5) dX4_sumsApart_5 (by decide) (fun c5 => ?_) (fun c5 => ?_)
  · skip
    refine g_iconst (pc := 16) dX4_sumsApart_16 kcm1 ?_
    exact retI (pc := 17) hR dX4_sumsApart_17 (by rw [smaI, if_pos (Or.inl c5)]) (rfl)
  · skip
    refine al0 (pc := 8) dX4_sumsApart_8 ?_
    refine gf_X4_69 (pc := 9) hs.1 dX4_sumsApart_9 ?_
    refine g_iconst (pc := 12) dX4_sumsApart_12 kc4 ?_
    refine g_icmpne 18 (pc := 13) dX4_sumsApart_13 (by decide) (fun c13 => ?_) (fun c13 => ?_)
    · skip
      refine g_iconst (pc := 18) dX4_sumsApart_18 kc0 ?_
      refine is3 (pc := 19) dX4_sumsApart_19 rfl ?_
      refine g_iconst (pc := 20) dX4_sumsApart_20 kc0 ?_
      refine is4 (pc := 21) dX4_sumsApart_21 rfl ?_
      have L23 : ∀ (n i : Nat) (acc : Int32), i + n = 16 → (accL (dfI (gA d a) (gA d b) bk m) n i acc = accL (dfI (gA d a) (gA d b) bk m) 16 0 0) → mGo l G (mRm 2 45) X RX4 cX4_sumsApart 7 0 0 Z 23 [some (.ref s), some (.int bk), some (.int m), some (.int acc), some (.int (nI i)), none, none] [] d := by
        intro n; induction n with
        | zero =>
          intro i acc hin23 hF
          refine il4 (pc := 23) dX4_sumsApart_23 ?_
          refine g_bipush (pc := 25) dX4_sumsApart_25 kb16 ?_
          refine g_icmpge 94 (pc := 27) dX4_sumsApart_27 (by decide) (fun c27 => ?_) (fun c27 => absurd (nI_le (a := 16) (by omega) (by omega)) c27)
          refine il3 (pc := 94) dX4_sumsApart_94 ?_
          refine cl_X4_89 (pc := 95) (by decide) (Nat.le_of_ble_eq_true rfl) ⟨Nat.zero_le _, Nat.zero_le _⟩ dX4_sumsApart_95 ?_
          exact retI (pc := 98) hR dX4_sumsApart_98 (by rw [smaI, if_neg (fun h => h.elim c5 c13), show acc = _ from hF]) (rfl)
        | succ n ih23 =>
          intro i acc hin23 hF
          refine il4 (pc := 23) dX4_sumsApart_23 ?_
          refine g_bipush (pc := 25) dX4_sumsApart_25 kb16 ?_
          refine g_icmpge 94 (pc := 27) dX4_sumsApart_27 (by decide) (fun c27 => absurd c27 (nI_ge (b := 16) (by omega) (by omega))) (fun c27 => ?_)
          refine il1 (pc := 30) dX4_sumsApart_30 ?_
          refine cl_X4_63 (pc := 31) (c_X8_firstColumn) (by decide) ⟨Nat.zero_le _, Nat.zero_le _⟩ (Nat.le_of_ble_eq_true rfl) dX4_sumsApart_31 ?_
          refine il4 (pc := 34) dX4_sumsApart_34 ?_
          refine g_iconst (pc := 36) dX4_sumsApart_36 kc4 ?_
          refine g_irem (pc := 37) dX4_sumsApart_37 (by decide) ?_
          refine g_iadd (pc := 38) dX4_sumsApart_38 ?_
          refine is5 (pc := 39) dX4_sumsApart_39 rfl ?_
          refine il1 (pc := 41) dX4_sumsApart_41 ?_
          refine cl_X4_66 (pc := 42) (c_X8_firstRow) (by decide) ⟨Nat.zero_le _, Nat.zero_le _⟩ (Nat.le_of_ble_eq_true rfl) dX4_sumsApart_42 ?_
          refine il4 (pc := 45) dX4_sumsApart_45 ?_
          refine g_iconst (pc := 47) dX4_sumsApart_47 kc4 ?_
          refine g_idiv (pc := 48) dX4_sumsApart_48 (by decide) ?_
          refine g_iadd (pc := 49) dX4_sumsApart_49 ?_
          refine is6 (pc := 50) dX4_sumsApart_50 rfl ?_
          refine il3 (pc := 52) dX4_sumsApart_52 ?_
          refine al0 (pc := 53) dX4_sumsApart_53 ?_
          refine gf_X4_77 (pc := 54) hs.1 hs.2.2.1 dX4_sumsApart_54 ?_
          refine il5 (pc := 57) dX4_sumsApart_57 ?_
          refine il6 (pc := 59) dX4_sumsApart_59 ?_
          refine cl_X4_81 (pc := 61) (c_X2_at hs.2.2.2.2) hs.2.2.2.2.1 (by decide) ⟨Nat.zero_le _, Nat.zero_le _⟩ (Nat.le_of_ble_eq_true rfl) dX4_sumsApart_61 ?_
          refine al0 (pc := 64) dX4_sumsApart_64 ?_
          refine gf_X4_86 (pc := 65) hs.1 hs.2.1 dX4_sumsApart_65 ?_
          refine il5 (pc := 68) dX4_sumsApart_68 ?_
          refine il2 (pc := 70) dX4_sumsApart_70 ?_
          refine cl_X4_32 (pc := 71) (c_X8_xOf) (by decide) ⟨Nat.zero_le _, Nat.zero_le _⟩ (Nat.le_of_ble_eq_true rfl) dX4_sumsApart_71 ?_
          refine g_iadd (pc := 74) dX4_sumsApart_74 ?_
          refine il6 (pc := 75) dX4_sumsApart_75 ?_
          refine il2 (pc := 77) dX4_sumsApart_77 ?_
          refine cl_X4_36 (pc := 78) (c_X8_yOf) (by decide) ⟨Nat.zero_le _, Nat.zero_le _⟩ (Nat.le_of_ble_eq_true rfl) dX4_sumsApart_78 ?_
          refine g_iadd (pc := 81) dX4_sumsApart_81 ?_
          refine cl_X4_81 (pc := 82) (c_X2_at hs.2.2.2.1) hs.2.2.2.1.1 (by decide) ⟨Nat.zero_le _, Nat.zero_le _⟩ (Nat.le_of_ble_eq_true rfl) dX4_sumsApart_82 ?_
          refine g_isub (pc := 85) dX4_sumsApart_85 ?_
          refine g_iadd (pc := 86) dX4_sumsApart_86 ?_
          refine is3 (pc := 87) dX4_sumsApart_87 rfl ?_
          refine ic4 (pc := 88) dX4_sumsApart_88 kc1 rfl ?_
          refine g_goto 23 (pc := 91) dX4_sumsApart_91 (by decide) ?_
          rw [nI_1]
          refine dr5 ?_
          refine dr6 ?_
          exact ih23 (i + 1) _ (by omega) hF
      exact L23 16 0 0 (by omega) rfl
    · skip
      refine g_iconst (pc := 16) dX4_sumsApart_16 kcm1 ?_
      exact retI (pc := 17) hR dX4_sumsApart_17 (by rw [smaI, if_pos (Or.inr c13)]) (rfl)
theorem c_X4_smallCost {l : Launch} {G : mG} {Z : mZ} {d : mD} {s p q a b : Nat} {bk m : Int32} (hs : scn Z s p q a b) : CtI l G yX4_smallCost cX4_smallCost 8 .int 2 46 [.ref s, .int bk, .int m] Z d (accL (sdI (gA d a) (gA d b) bk m) 4 0 0) d := by
  refine enterI RX4 5 [some (.ref s), some (.int bk), some (.int m), none, none, none, none, none] (by decide) rfl (rfl) rfl rfl (fun X hR => ?_)
  refine g_iconst (pc := 0) dX4_smallCost_0 kc0 ?_
  refine is3 (pc := 1) dX4_smallCost_1 rfl ?_
  refine g_iconst (pc := 2) dX4_smallCost_2 kc0 ?_
  refine is4 (pc := 3) dX4_smallCost_3 rfl ?_
  have L5 : ∀ (n i : Nat) (acc : Int32), i + n = 4 → (accL (sdI (gA d a) (gA d b) bk m) n i acc = accL (sdI (gA d a) (gA d b) bk m) 4 0 0) → mGo l G (mRm 2 46) X RX4 cX4_smallCost 8 0 0 Z 5 [some (.ref s), some (.int bk), some (.int m), some (.int acc), some (.int (nI i)), none, none, none] [] d := by
    intro n; induction n with
    | zero =>
      intro i acc hin5 hF
      refine il4 (pc := 5) dX4_smallCost_5 ?_
      refine g_iconst (pc := 7) dX4_smallCost_7 kc4 ?_
      refine g_icmpge 86 (pc := 8) dX4_smallCost_8 (by decide) (fun c8 => ?_) (fun c8 => absurd (nI_le (a := 4) (by omega) (by omega)) c8)
      refine il3 (pc := 86) dX4_smallCost_86 ?_
      exact retI (pc := 87) hR dX4_smallCost_87 (hF) (rfl)
    | succ n ih5 =>
      intro i acc hin5 hF
      refine il4 (pc := 5) dX4_smallCost_5 ?_
      refine g_iconst (pc := 7) dX4_smallCost_7 kc4 ?_
      refine g_icmpge 86 (pc := 8) dX4_smallCost_8 (by decide) (fun c8 => absurd c8 (nI_ge (b := 4) (by omega) (by omega))) (fun c8 => ?_)
      refine il1 (pc := 11) dX4_smallCost_11 ?_
      refine cl_X4_63 (pc := 12) (c_X8_firstColumn) (by decide) ⟨Nat.zero_le _, Nat.zero_le _⟩ (Nat.le_of_ble_eq_true rfl) dX4_smallCost_12 ?_
      refine g_iconst (pc := 15) dX4_smallCost_15 kc2 ?_
      refine g_idiv (pc := 16) dX4_smallCost_16 (by decide) ?_
      refine il4 (pc := 17) dX4_smallCost_17 ?_
      refine g_iconst (pc := 19) dX4_smallCost_19 kc2 ?_
      refine g_irem (pc := 20) dX4_smallCost_20 (by decide) ?_
      refine g_iadd (pc := 21) dX4_smallCost_21 ?_
      refine is5 (pc := 22) dX4_smallCost_22 rfl ?_
      refine il1 (pc := 24) dX4_smallCost_24 ?_
      refine cl_X4_66 (pc := 25) (c_X8_firstRow) (by decide) ⟨Nat.zero_le _, Nat.zero_le _⟩ (Nat.le_of_ble_eq_true rfl) dX4_smallCost_25 ?_
      refine g_iconst (pc := 28) dX4_smallCost_28 kc2 ?_
      refine g_idiv (pc := 29) dX4_smallCost_29 (by decide) ?_
      refine il4 (pc := 30) dX4_smallCost_30 ?_
      refine g_iconst (pc := 32) dX4_smallCost_32 kc2 ?_
      refine g_idiv (pc := 33) dX4_smallCost_33 (by decide) ?_
      refine g_iadd (pc := 34) dX4_smallCost_34 ?_
      refine is6 (pc := 35) dX4_smallCost_35 rfl ?_
      refine al0 (pc := 37) dX4_smallCost_37 ?_
      refine gf_X4_86 (pc := 38) hs.1 hs.2.1 dX4_smallCost_38 ?_
      refine il5 (pc := 41) dX4_smallCost_41 ?_
      refine il2 (pc := 43) dX4_smallCost_43 ?_
      refine cl_X4_32 (pc := 44) (c_X8_xOf) (by decide) ⟨Nat.zero_le _, Nat.zero_le _⟩ (Nat.le_of_ble_eq_true rfl) dX4_smallCost_44 ?_
      refine g_iadd (pc := 47) dX4_smallCost_47 ?_
      refine il6 (pc := 48) dX4_smallCost_48 ?_
      refine il2 (pc := 50) dX4_smallCost_50 ?_
      refine cl_X4_36 (pc := 51) (c_X8_yOf) (by decide) ⟨Nat.zero_le _, Nat.zero_le _⟩ (Nat.le_of_ble_eq_true rfl) dX4_smallCost_51 ?_
      refine g_iadd (pc := 54) dX4_smallCost_54 ?_
      refine cl_X4_108 (pc := 55) (c_X2_halfAt hs.2.2.2.1) hs.2.2.2.1.1 (by decide) ⟨Nat.zero_le _, Nat.zero_le _⟩ (Nat.le_of_ble_eq_true rfl) dX4_smallCost_55 ?_
      refine is7 (pc := 58) dX4_smallCost_58 rfl ?_
      refine il3 (pc := 60) dX4_smallCost_60 ?_
      refine al0 (pc := 61) dX4_smallCost_61 ?_
      refine gf_X4_77 (pc := 62) hs.1 hs.2.2.1 dX4_smallCost_62 ?_
      refine il5 (pc := 65) dX4_smallCost_65 ?_
      refine il6 (pc := 67) dX4_smallCost_67 ?_
      refine cl_X4_108 (pc := 69) (c_X2_halfAt hs.2.2.2.2) hs.2.2.2.2.1 (by decide) ⟨Nat.zero_le _, Nat.zero_le _⟩ (Nat.le_of_ble_eq_true rfl) dX4_smallCost_69 ?_
      refine il7 (pc := 72) dX4_smallCost_72 ?_
      refine g_isub (pc := 74) dX4_smallCost_74 ?_
      refine cl_X4_89 (pc := 75) (by decide) (Nat.le_of_ble_eq_true rfl) ⟨Nat.zero_le _, Nat.zero_le _⟩ dX4_smallCost_75 ?_
      refine g_iadd (pc := 78) dX4_smallCost_78 ?_
      refine is3 (pc := 79) dX4_smallCost_79 rfl ?_
      refine ic4 (pc := 80) dX4_smallCost_80 kc1 rfl ?_
      refine g_goto 5 (pc := 83) dX4_smallCost_83 (by decide) ?_
      rw [nI_1]
      refine dr5 ?_
      refine dr6 ?_
      refine dr7 ?_
      exact ih5 (i + 1) _ (by omega) hF
  exact L5 4 0 0 (by omega) rfl
theorem c_X4_smallMove {l : Launch} {G : mG} {Z : mZ} {d : mD} {s p q a b : Nat} {bk : Int32} (hs : scn Z s p q a b) : CtI l G yX4_smallMove cX4_smallMove 7 .int 3 73 [.ref s, .int bk] Z d (smvI (gA d a) (gA d b) bk) d := by
  refine enterI RX4 5 [some (.ref s), some (.int bk), none, none, none, none, none] (by decide) rfl (rfl) rfl rfl (fun X hR => ?_)
  refine g_ldc (pc := 0) dX4_smallMove_0 wk_X4_43 ?_
  refine is2 (pc := 2) dX4_smallMove_2 rfl ?_
  refine g_bipush (pc := 3) dX4_smallMove_3 kb24 ?_
  refine is3 (pc := 5) dX4_smallMove_5 rfl ?_
  refine g_iconst (pc := 6) dX4_smallMove_6 kc0 ?_
  refine is4 (pc := 7) dX4_smallMove_7 rfl ?_
  have L9 : ∀ (n i : Nat) (le : Int32) (fo : Int32), i + n = 49 → (argL (fun m => accL (sdI (gA d a) (gA d b) bk m) 4 0 0) (fun m => decide (nearP m 24 1)) n i le fo = argL (fun m => accL (sdI (gA d a) (gA d b) bk m) 4 0 0) (fun m => decide (nearP m 24 1)) 49 0 1000000 24) → mGo l G (mRm 3 73) X RX4 cX4_smallMove 7 0 0 Z 9 [some (.ref s), some (.int bk), some (.int le), some (.int fo), some (.int (nI i)), none, none] [] d := by
    intro n; induction n with
    | zero =>
      intro i le fo hin9 hF
      refine il4 (pc := 9) dX4_smallMove_9 ?_
      refine g_bipush (pc := 11) dX4_smallMove_11 kb49 ?_
      refine g_icmpge 65 (pc := 13) dX4_smallMove_13 (by decide) (fun c13 => ?_) (fun c13 => absurd (nI_le (a := 49) (by omega) (by omega)) c13)
      refine il3 (pc := 65) dX4_smallMove_65 ?_
      exact retI (pc := 66) hR dX4_smallMove_66 (by rw [smvI, ← hF]; rfl) (rfl)
    | succ n ih9 =>
      intro i le fo hin9 hF
      refine il4 (pc := 9) dX4_smallMove_9 ?_
      refine g_bipush (pc := 11) dX4_smallMove_11 kb49 ?_
      refine g_icmpge 65 (pc := 13) dX4_smallMove_13 (by decide) (fun c13 => absurd c13 (nI_ge (b := 49) (by omega) (by omega))) (fun c13 => ?_)
      refine gs_X4_44 (pc := 16) dX4_smallMove_16 ?_
      refine il4 (pc := 19) dX4_smallMove_19 ?_
      refine g_ordL (pc := 21) i (by omega) (rfl) dX4_smallMove_21 ?_
      refine is5 (pc := 22) dX4_smallMove_22 rfl ?_
      refine il5 (pc := 24) dX4_smallMove_24 ?_
      refine g_bipush (pc := 26) dX4_smallMove_26 kb24 ?_
      refine g_iconst (pc := 28) dX4_smallMove_28 kc1 ?_
      refine cl_X4_56 (pc := 29) (c_X4_isNear) (by decide) ⟨Nat.zero_le _, Nat.zero_le _⟩ (Nat.le_of_ble_eq_true rfl) dX4_smallMove_29 ?_
      refine g_ifne 38 (pc := 32) dX4_smallMove_32 (by decide) (fun c32 => ?_) (fun c32 => ?_)
      · skip
        rw [mB_ne0] at c32
        refine al0 (pc := 38) dX4_smallMove_38 ?_
        refine il1 (pc := 39) dX4_smallMove_39 ?_
        refine il5 (pc := 40) dX4_smallMove_40 ?_
        refine cl_X4_105 (pc := 42) (c_X4_smallCost hs) (by decide) ⟨Nat.zero_le _, Nat.zero_le _⟩ (Nat.le_of_ble_eq_true rfl) dX4_smallMove_42 ?_
        refine is6 (pc := 45) dX4_smallMove_45 rfl ?_
        refine il6 (pc := 47) dX4_smallMove_47 ?_
        refine il2 (pc := 49) dX4_smallMove_49 ?_
        refine g_icmpge 59 (pc := 50) dX4_smallMove_50 (by decide) (fun c50 => ?_) (fun c50 => ?_)
        · skip
          refine ic4 (pc := 59) dX4_smallMove_59 kc1 rfl ?_
          refine g_goto 9 (pc := 62) dX4_smallMove_62 (by decide) ?_
          rw [nI_1]
          refine dr5 ?_
          refine dr6 ?_
          exact ih9 (i + 1) _ _ (by omega) (by rw [← hF, argL, if_pos (by simpa using c32)]; simp only [if_neg (Int32.not_lt.mpr c50)])
        · skip
          refine il6 (pc := 53) dX4_smallMove_53 ?_
          refine is2 (pc := 55) dX4_smallMove_55 rfl ?_
          refine il5 (pc := 56) dX4_smallMove_56 ?_
          refine is3 (pc := 58) dX4_smallMove_58 rfl ?_
          refine ic4 (pc := 59) dX4_smallMove_59 kc1 rfl ?_
          refine g_goto 9 (pc := 62) dX4_smallMove_62 (by decide) ?_
          rw [nI_1]
          refine dr5 ?_
          refine dr6 ?_
          exact ih9 (i + 1) _ _ (by omega) (by rw [← hF, argL, if_pos (by simpa using c32)]; simp only [if_pos (Int32.not_le.mp c50)])
      · skip
        rw [mB_eq0] at c32
        refine g_goto 59 (pc := 35) dX4_smallMove_35 (by decide) ?_
        refine ic4 (pc := 59) dX4_smallMove_59 kc1 rfl ?_
        refine g_goto 9 (pc := 62) dX4_smallMove_62 (by decide) ?_
        rw [nI_1]
        refine dr5 ?_
        exact ih9 (i + 1) _ _ (by omega) (by rw [← hF, argL, if_neg (by simpa using c32)])
  exact L9 49 0 _ _ (by omega) rfl
theorem c_X4_costBelow {l : Launch} {G : mG} {Z : mZ} {d : mD} {sr s p q a b : Nat} {bk m lim : Int32} (hr : ob Z 4 sr) (hs : scn Z s p q a b) : CtI l G yX4_costBelow cX4_costBelow 14 .int 2 45 [.ref sr, .ref s, .int bk, .int m, .int lim] Z d (cbL (dcI (gI d 98 s) (gA d a) (gA d b) bk m) lim 16 0 (atoI (gI d 98 s) m) (gI d 130 sr)).1 (sI d 130 sr (cbL (dcI (gI d 98 s) (gA d a) (gA d b) bk m) lim 16 0 (atoI (gI d 98 s) m) (gI d 130 sr)).2) := by
  refine enterI RX4 9 [some (.ref sr), some (.ref s), some (.int bk), some (.int m), some (.int lim), none, none, none, none, none, none, none, none, none] (by decide) rfl (rfl) rfl rfl (fun X hR => ?_)
  refine il3 (pc := 0) dX4_costBelow_0 ?_
  refine cl_X4_32 (pc := 1) (c_X8_xOf) (by decide) ⟨Nat.zero_le _, Nat.zero_le _⟩ (Nat.le_of_ble_eq_true rfl) dX4_costBelow_1 ?_
  refine is5 (pc := 4) dX4_costBelow_4 rfl ?_
  refine il3 (pc := 6) dX4_costBelow_6 ?_
  refine cl_X4_36 (pc := 7) (c_X8_yOf) (by decide) ⟨Nat.zero_le _, Nat.zero_le _⟩ (Nat.le_of_ble_eq_true rfl) dX4_costBelow_7 ?_
  refine is6 (pc := 10) dX4_costBelow_10 rfl ?_
  refine il2 (pc := 12) dX4_costBelow_12 ?_
  refine cl_X4_63 (pc := 13) (c_X8_firstColumn) (by decide) ⟨Nat.zero_le _, Nat.zero_le _⟩ (Nat.le_of_ble_eq_true rfl) dX4_costBelow_13 ?_
  refine is7 (pc := 16) dX4_costBelow_16 rfl ?_
  refine il2 (pc := 18) dX4_costBelow_18 ?_
  refine cl_X4_66 (pc := 19) (c_X8_firstRow) (by decide) ⟨Nat.zero_le _, Nat.zero_le _⟩ (Nat.le_of_ble_eq_true rfl) dX4_costBelow_19 ?_
  refine is8 (pc := 22) dX4_costBelow_22 rfl ?_
  refine al1 (pc := 24) dX4_costBelow_24 ?_
  refine gf_X4_69 (pc := 25) hs.1 dX4_costBelow_25 ?_
  refine g_iconst (pc := 28) dX4_costBelow_28 kc3 ?_
  refine g_icmpne 41 (pc := 29) dX4_costBelow_29 (by decide) (fun c29 => ?_) (fun c29 => ?_)
  · skip
    have h3 : atoI (gI d 98 s) m = 0 := by rw [atoI, if_neg c29]
    refine g_iconst (pc := 41) dX4_costBelow_41 kc0 ?_
    refine is9 (pc := 42) dX4_costBelow_42 rfl ?_
    refine g_iconst (pc := 44) dX4_costBelow_44 kc0 ?_
    refine is10 (pc := 45) dX4_costBelow_45 rfl ?_
    have L47 : ∀ (n i : Nat) (sm : Int32) (lk : Int32), i + n = 16 → (cbL (dcI (gI d 98 s) (gA d a) (gA d b) bk m) lim n i sm lk = cbL (dcI (gI d 98 s) (gA d a) (gA d b) bk m) lim 16 0 (atoI (gI d 98 s) m) (gI d 130 sr)) → mGo l G (mRm 2 45) X RX4 cX4_costBelow 14 0 0 Z 47 [some (.ref sr), some (.ref s), some (.int bk), some (.int m), some (.int lim), some (.int (xOfI m)), some (.int (yOfI m)), some (.int (colI bk)), some (.int (rowI bk)), some (.int sm), some (.int (nI i)), none, none, none] [] (sI d 130 sr lk) := by
      intro n; induction n with
      | zero =>
        intro i sm lk hin47 hF
        refine il10 (pc := 47) dX4_costBelow_47 ?_
        refine g_bipush (pc := 49) dX4_costBelow_49 kb16 ?_
        refine g_icmpge 145 (pc := 51) dX4_costBelow_51 (by decide) (fun c51 => ?_) (fun c51 => absurd (nI_le (a := 16) (by omega) (by omega)) c51)
        refine il9 (pc := 145) dX4_costBelow_145 ?_
        exact retI (pc := 147) hR dX4_costBelow_147 (by rw [← hF]; rfl) (by rw [← hF]; rfl)
      | succ n ih47 =>
        intro i sm lk hin47 hF
        refine il10 (pc := 47) dX4_costBelow_47 ?_
        refine g_bipush (pc := 49) dX4_costBelow_49 kb16 ?_
        refine g_icmpge 145 (pc := 51) dX4_costBelow_51 (by decide) (fun c51 => absurd c51 (nI_ge (b := 16) (by omega) (by omega))) (fun c51 => ?_)
        refine il9 (pc := 54) dX4_costBelow_54 ?_
        refine il4 (pc := 56) dX4_costBelow_56 ?_
        refine g_icmpge 145 (pc := 58) dX4_costBelow_58 (by decide) (fun c58 => ?_) (fun c58 => ?_)
        · skip
          refine il9 (pc := 145) dX4_costBelow_145 ?_
          exact retI (pc := 147) hR dX4_costBelow_147 (by rw [← hF, cbL, if_pos c58]) (by rw [← hF, cbL, if_pos c58])
        · skip
          refine il7 (pc := 61) dX4_costBelow_61 ?_
          refine il10 (pc := 63) dX4_costBelow_63 ?_
          refine g_iconst (pc := 65) dX4_costBelow_65 kc4 ?_
          refine g_irem (pc := 66) dX4_costBelow_66 (by decide) ?_
          refine g_iadd (pc := 67) dX4_costBelow_67 ?_
          refine is11 (pc := 68) dX4_costBelow_68 rfl ?_
          refine il8 (pc := 70) dX4_costBelow_70 ?_
          refine il10 (pc := 72) dX4_costBelow_72 ?_
          refine g_iconst (pc := 74) dX4_costBelow_74 kc4 ?_
          refine g_idiv (pc := 75) dX4_costBelow_75 (by decide) ?_
          refine g_iadd (pc := 76) dX4_costBelow_76 ?_
          refine is12 (pc := 77) dX4_costBelow_77 rfl ?_
          refine al1 (pc := 79) dX4_costBelow_79 ?_
          refine gf_X4_77 (pc := 80) hs.1 hs.2.2.1 dX4_costBelow_80 ?_
          refine il11 (pc := 83) dX4_costBelow_83 ?_
          refine il12 (pc := 85) dX4_costBelow_85 ?_
          refine cl_X4_81 (pc := 87) (c_X2_at hs.2.2.2.2) hs.2.2.2.2.1 (by decide) ⟨Nat.zero_le _, Nat.zero_le _⟩ (Nat.le_of_ble_eq_true rfl) dX4_costBelow_87 ?_
          refine al1 (pc := 90) dX4_costBelow_90 ?_
          refine gf_X4_86 (pc := 91) hs.1 hs.2.1 dX4_costBelow_91 ?_
          refine il11 (pc := 94) dX4_costBelow_94 ?_
          refine il5 (pc := 96) dX4_costBelow_96 ?_
          refine g_iadd (pc := 98) dX4_costBelow_98 ?_
          refine il12 (pc := 99) dX4_costBelow_99 ?_
          refine il6 (pc := 101) dX4_costBelow_101 ?_
          refine g_iadd (pc := 103) dX4_costBelow_103 ?_
          refine cl_X4_81 (pc := 104) (c_X2_at hs.2.2.2.1) hs.2.2.2.1.1 (by decide) ⟨Nat.zero_le _, Nat.zero_le _⟩ (Nat.le_of_ble_eq_true rfl) dX4_costBelow_104 ?_
          refine g_isub (pc := 107) dX4_costBelow_107 ?_
          refine cl_X4_89 (pc := 108) (by decide) (Nat.le_of_ble_eq_true rfl) ⟨Nat.zero_le _, Nat.zero_le _⟩ dX4_costBelow_108 ?_
          refine is13 (pc := 111) dX4_costBelow_111 rfl ?_
          refine il9 (pc := 113) dX4_costBelow_113 ?_
          refine al1 (pc := 115) dX4_costBelow_115 ?_
          refine gf_X4_69 (pc := 116) hs.1 dX4_costBelow_116 ?_
          rw [gI_ne (by decide)]
          refine il13 (pc := 119) dX4_costBelow_119 ?_
          refine il10 (pc := 121) dX4_costBelow_121 ?_
          refine cl_X4_94 (pc := 123) (c_X4_dotCost) (by decide) ⟨Nat.zero_le _, Nat.zero_le _⟩ (Nat.le_of_ble_eq_true rfl) dX4_costBelow_123 ?_
          refine g_iadd (pc := 126) dX4_costBelow_126 ?_
          refine is9 (pc := 127) dX4_costBelow_127 rfl ?_
          refine al0 (pc := 129) dX4_costBelow_129 ?_
          refine g_dupR (pc := 130) dX4_costBelow_130 ?_
          refine gf_X4_18 (pc := 131) hr dX4_costBelow_131 ?_
          rw [gI_eq]
          refine g_iconst (pc := 134) dX4_costBelow_134 kc1 ?_
          refine g_iadd (pc := 135) dX4_costBelow_135 ?_
          refine pf_X4_18 (pc := 136) hr dX4_costBelow_136 ?_
          rw [sI_sI]
          refine ic10 (pc := 139) dX4_costBelow_139 kc1 rfl ?_
          refine g_goto 47 (pc := 142) dX4_costBelow_142 (by decide) ?_
          rw [nI_1]
          refine dr11 ?_
          refine dr12 ?_
          refine dr13 ?_
          exact ih47 (i + 1) _ _ (by omega) (by rw [← hF, cbL, if_neg c58]; rfl)
    have q9 := L47 16 0 (atoI (gI d 98 s) m) (gI d 130 sr) (by omega) rfl
    rw [sI_self, h3] at q9
    exact q9
  · skip
    have h3 : atoI (gI d 98 s) m = 2 * farI m := by rw [atoI, if_pos c29]
    refine g_iconst (pc := 32) dX4_costBelow_32 kc2 ?_
    refine il3 (pc := 33) dX4_costBelow_33 ?_
    refine cl_X4_74 (pc := 34) (c_X8_stepsOf) (by decide) ⟨Nat.zero_le _, Nat.zero_le _⟩ (Nat.le_of_ble_eq_true rfl) dX4_costBelow_34 ?_
    refine g_imul (pc := 37) dX4_costBelow_37 ?_
    refine g_goto 42 (pc := 38) dX4_costBelow_38 (by decide) ?_
    refine is9 (pc := 42) dX4_costBelow_42 rfl ?_
    refine g_iconst (pc := 44) dX4_costBelow_44 kc0 ?_
    refine is10 (pc := 45) dX4_costBelow_45 rfl ?_
    have L47 : ∀ (n i : Nat) (sm : Int32) (lk : Int32), i + n = 16 → (cbL (dcI (gI d 98 s) (gA d a) (gA d b) bk m) lim n i sm lk = cbL (dcI (gI d 98 s) (gA d a) (gA d b) bk m) lim 16 0 (atoI (gI d 98 s) m) (gI d 130 sr)) → mGo l G (mRm 2 45) X RX4 cX4_costBelow 14 0 0 Z 47 [some (.ref sr), some (.ref s), some (.int bk), some (.int m), some (.int lim), some (.int (xOfI m)), some (.int (yOfI m)), some (.int (colI bk)), some (.int (rowI bk)), some (.int sm), some (.int (nI i)), none, none, none] [] (sI d 130 sr lk) := by
      intro n; induction n with
      | zero =>
        intro i sm lk hin47 hF
        refine il10 (pc := 47) dX4_costBelow_47 ?_
        refine g_bipush (pc := 49) dX4_costBelow_49 kb16 ?_
        refine g_icmpge 145 (pc := 51) dX4_costBelow_51 (by decide) (fun c51 => ?_) (fun c51 => absurd (nI_le (a := 16) (by omega) (by omega)) c51)
        refine il9 (pc := 145) dX4_costBelow_145 ?_
        exact retI (pc := 147) hR dX4_costBelow_147 (by rw [← hF]; rfl) (by rw [← hF]; rfl)
      | succ n ih47 =>
        intro i sm lk hin47 hF
        refine il10 (pc := 47) dX4_costBelow_47 ?_
        refine g_bipush (pc := 49) dX4_costBelow_49 kb16 ?_
        refine g_icmpge 145 (pc := 51) dX4_costBelow_51 (by decide) (fun c51 => absurd c51 (nI_ge (b := 16) (by omega) (by omega))) (fun c51 => ?_)
        refine il9 (pc := 54) dX4_costBelow_54 ?_
        refine il4 (pc := 56) dX4_costBelow_56 ?_
        refine g_icmpge 145 (pc := 58) dX4_costBelow_58 (by decide) (fun c58 => ?_) (fun c58 => ?_)
        · skip
          refine il9 (pc := 145) dX4_costBelow_145 ?_
          exact retI (pc := 147) hR dX4_costBelow_147 (by rw [← hF, cbL, if_pos c58]) (by rw [← hF, cbL, if_pos c58])
        · skip
          refine il7 (pc := 61) dX4_costBelow_61 ?_
          refine il10 (pc := 63) dX4_costBelow_63 ?_
          refine g_iconst (pc := 65) dX4_costBelow_65 kc4 ?_
          refine g_irem (pc := 66) dX4_costBelow_66 (by decide) ?_
          refine g_iadd (pc := 67) dX4_costBelow_67 ?_
          refine is11 (pc := 68) dX4_costBelow_68 rfl ?_
          refine il8 (pc := 70) dX4_costBelow_70 ?_
          refine il10 (pc := 72) dX4_costBelow_72 ?_
          refine g_iconst (pc := 74) dX4_costBelow_74 kc4 ?_
          refine g_idiv (pc := 75) dX4_costBelow_75 (by decide) ?_
          refine g_iadd (pc := 76) dX4_costBelow_76 ?_
          refine is12 (pc := 77) dX4_costBelow_77 rfl ?_
          refine al1 (pc := 79) dX4_costBelow_79 ?_
          refine gf_X4_77 (pc := 80) hs.1 hs.2.2.1 dX4_costBelow_80 ?_
          refine il11 (pc := 83) dX4_costBelow_83 ?_
          refine il12 (pc := 85) dX4_costBelow_85 ?_
          refine cl_X4_81 (pc := 87) (c_X2_at hs.2.2.2.2) hs.2.2.2.2.1 (by decide) ⟨Nat.zero_le _, Nat.zero_le _⟩ (Nat.le_of_ble_eq_true rfl) dX4_costBelow_87 ?_
          refine al1 (pc := 90) dX4_costBelow_90 ?_
          refine gf_X4_86 (pc := 91) hs.1 hs.2.1 dX4_costBelow_91 ?_
          refine il11 (pc := 94) dX4_costBelow_94 ?_
          refine il5 (pc := 96) dX4_costBelow_96 ?_
          refine g_iadd (pc := 98) dX4_costBelow_98 ?_
          refine il12 (pc := 99) dX4_costBelow_99 ?_
          refine il6 (pc := 101) dX4_costBelow_101 ?_
          refine g_iadd (pc := 103) dX4_costBelow_103 ?_
          refine cl_X4_81 (pc := 104) (c_X2_at hs.2.2.2.1) hs.2.2.2.1.1 (by decide) ⟨Nat.zero_le _, Nat.zero_le _⟩ (Nat.le_of_ble_eq_true rfl) dX4_costBelow_104 ?_
          refine g_isub (pc := 107) dX4_costBelow_107 ?_
          refine cl_X4_89 (pc := 108) (by decide) (Nat.le_of_ble_eq_true rfl) ⟨Nat.zero_le _, Nat.zero_le _⟩ dX4_costBelow_108 ?_
          refine is13 (pc := 111) dX4_costBelow_111 rfl ?_
          refine il9 (pc := 113) dX4_costBelow_113 ?_
          refine al1 (pc := 115) dX4_costBelow_115 ?_
          refine gf_X4_69 (pc := 116) hs.1 dX4_costBelow_116 ?_
          rw [gI_ne (by decide)]
          refine il13 (pc := 119) dX4_costBelow_119 ?_
          refine il10 (pc := 121) dX4_costBelow_121 ?_
          refine cl_X4_94 (pc := 123) (c_X4_dotCost) (by decide) ⟨Nat.zero_le _, Nat.zero_le _⟩ (Nat.le_of_ble_eq_true rfl) dX4_costBelow_123 ?_
          refine g_iadd (pc := 126) dX4_costBelow_126 ?_
          refine is9 (pc := 127) dX4_costBelow_127 rfl ?_
          refine al0 (pc := 129) dX4_costBelow_129 ?_
          refine g_dupR (pc := 130) dX4_costBelow_130 ?_
          refine gf_X4_18 (pc := 131) hr dX4_costBelow_131 ?_
          rw [gI_eq]
          refine g_iconst (pc := 134) dX4_costBelow_134 kc1 ?_
          refine g_iadd (pc := 135) dX4_costBelow_135 ?_
          refine pf_X4_18 (pc := 136) hr dX4_costBelow_136 ?_
          rw [sI_sI]
          refine ic10 (pc := 139) dX4_costBelow_139 kc1 rfl ?_
          refine g_goto 47 (pc := 142) dX4_costBelow_142 (by decide) ?_
          rw [nI_1]
          refine dr11 ?_
          refine dr12 ?_
          refine dr13 ?_
          exact ih47 (i + 1) _ _ (by omega) (by rw [← hF, cbL, if_neg c58]; rfl)
    have q9 := L47 16 0 (atoI (gI d 98 s) m) (gI d 130 sr) (by omega) rfl
    rw [sI_self, h3] at q9
    exact q9
theorem c_X4_wholeCost {l : Launch} {G : mG} {Z : mZ} {d : mD} {sr s p q a b : Nat} {bk m : Int32} (hr : ob Z 4 sr) (hs : scn Z s p q a b) : CtI l G yX4_wholeCost cX4_wholeCost 4 .int 3 78 [.ref sr, .ref s, .int bk, .int m] Z d (cbL (dcI (gI d 98 s) (gA d a) (gA d b) bk m) 1000000 16 0 (atoI (gI d 98 s) m) (gI d 130 sr)).1 (sI d 130 sr (cbL (dcI (gI d 98 s) (gA d a) (gA d b) bk m) 1000000 16 0 (atoI (gI d 98 s) m) (gI d 130 sr)).2) := by
  refine enterI RX4 0 [some (.ref sr), some (.ref s), some (.int bk), some (.int m)] (by decide) rfl (rfl) rfl rfl (fun X hR => ?_)
  refine al0 (pc := 0) dX4_wholeCost_0 ?_
  refine al1 (pc := 1) dX4_wholeCost_1 ?_
  refine il2 (pc := 2) dX4_wholeCost_2 ?_
  refine il3 (pc := 3) dX4_wholeCost_3 ?_
  refine g_ldc (pc := 4) dX4_wholeCost_4 wk_X4_43 ?_
  refine cl_X4_52 (pc := 6) (c_X4_costBelow hr hs) hr (by decide) ⟨Nat.zero_le _, Nat.zero_le _⟩ (Nat.le_of_ble_eq_true rfl) dX4_wholeCost_6 ?_
  exact retI (pc := 9) hR dX4_wholeCost_9 (rfl) (rfl)
theorem c_X4_tryMoves {l : Launch} {G : mG} {Z : mZ} {d : mD} {sr s p q a b : Nat} {bk mid rc bs : Int32} (hr : ob Z 4 sr) (hs : scn Z s p q a b) : CtV l G yX4_tryMoves cX4_tryMoves 9 3 78 [.ref sr, .ref s, .int bk, .int mid, .int rc, .int bs] Z d (seT d sr (tmL (gI d 98 s) (gA d a) (gA d b) bk mid rc bs 49 0 mid 1000000 0 0)) := by
  refine enterV RX4 3 [some (.ref sr), some (.ref s), some (.int bk), some (.int mid), some (.int rc), some (.int bs), none, none, none] (by decide) rfl rfl rfl (fun X hR => ?_)
  refine al0 (pc := 0) dX4_tryMoves_0 ?_
  refine il3 (pc := 1) dX4_tryMoves_1 ?_
  refine pf_X4_9 (pc := 2) hr dX4_tryMoves_2 ?_
  refine al0 (pc := 5) dX4_tryMoves_5 ?_
  refine g_ldc (pc := 6) dX4_tryMoves_6 wk_X4_43 ?_
  refine pf_X4_15 (pc := 8) hr dX4_tryMoves_8 ?_
  refine al0 (pc := 11) dX4_tryMoves_11 ?_
  refine g_iconst (pc := 12) dX4_tryMoves_12 kc0 ?_
  refine pf_X4_18 (pc := 13) hr dX4_tryMoves_13 ?_
  refine al0 (pc := 16) dX4_tryMoves_16 ?_
  refine g_iconst (pc := 17) dX4_tryMoves_17 kc0 ?_
  refine pf_X4_21 (pc := 18) hr dX4_tryMoves_18 ?_
  refine g_iconst (pc := 21) dX4_tryMoves_21 kc0 ?_
  refine is6 (pc := 22) dX4_tryMoves_22 rfl ?_
  have L24 : ∀ (n i : Nat) (mv : Int32) (co : Int32) (lk : Int32) (lo : Int32), i + n = 49 → (tmL (gI d 98 s) (gA d a) (gA d b) bk mid rc bs n i mv co lk lo = tmL (gI d 98 s) (gA d a) (gA d b) bk mid rc bs 49 0 mid 1000000 0 0) → mGo l G (mRm 3 78) X RX4 cX4_tryMoves 9 0 0 Z 24 [some (.ref sr), some (.ref s), some (.int bk), some (.int mid), some (.int rc), some (.int bs), some (.int (nI i)), none, none] [] (seD d sr mv co lk lo) := by
    intro n; induction n with
    | zero =>
      intro i mv co lk lo hin24 hF
      refine il6 (pc := 24) dX4_tryMoves_24 ?_
      refine g_bipush (pc := 26) dX4_tryMoves_26 kb49 ?_
      refine g_icmpge 126 (pc := 28) dX4_tryMoves_28 (by decide) (fun c28 => ?_) (fun c28 => absurd (nI_le (a := 49) (by omega) (by omega)) c28)
      exact retV (pc := 126) hR dX4_tryMoves_126 (by rw [seT, ← hF]; rfl)
    | succ n ih24 =>
      intro i mv co lk lo hin24 hF
      refine il6 (pc := 24) dX4_tryMoves_24 ?_
      refine g_bipush (pc := 26) dX4_tryMoves_26 kb49 ?_
      refine g_icmpge 126 (pc := 28) dX4_tryMoves_28 (by decide) (fun c28 => absurd c28 (nI_ge (b := 49) (by omega) (by omega))) (fun c28 => ?_)
      refine gs_X4_44 (pc := 31) dX4_tryMoves_31 ?_
      refine il6 (pc := 34) dX4_tryMoves_34 ?_
      refine g_ordL (pc := 36) i (by omega) (rfl) dX4_tryMoves_36 ?_
      refine is7 (pc := 37) dX4_tryMoves_37 rfl ?_
      refine il7 (pc := 39) dX4_tryMoves_39 ?_
      refine il3 (pc := 41) dX4_tryMoves_41 ?_
      refine il4 (pc := 42) dX4_tryMoves_42 ?_
      refine cl_X4_56 (pc := 44) (c_X4_isNear) (by decide) ⟨Nat.zero_le _, Nat.zero_le _⟩ (Nat.le_of_ble_eq_true rfl) dX4_tryMoves_44 ?_
      refine g_ifne 53 (pc := 47) dX4_tryMoves_47 (by decide) (fun c47 => ?_) (fun c47 => ?_)
      · skip
        rw [mB_ne0] at c47
        refine il5 (pc := 53) dX4_tryMoves_53 ?_
        refine g_ifeq 85 (pc := 55) dX4_tryMoves_55 (by decide) (fun c55 => ?_) (fun c55 => ?_)
        · skip
          refine al0 (pc := 85) dX4_tryMoves_85 ?_
          refine al1 (pc := 86) dX4_tryMoves_86 ?_
          refine il2 (pc := 87) dX4_tryMoves_87 ?_
          refine il7 (pc := 88) dX4_tryMoves_88 ?_
          refine al0 (pc := 90) dX4_tryMoves_90 ?_
          refine gf_X4_15 (pc := 91) hr dX4_tryMoves_91 ?_
          rw [gse_129]
          refine cl_X4_52 (pc := 94) (c_X4_costBelow hr hs) hr (by decide) ⟨Nat.zero_le _, Nat.zero_le _⟩ (Nat.le_of_ble_eq_true rfl) dX4_tryMoves_94 ?_
          rw [gse_ne _ _ _ _ _ _ _ (Or.inl (by decide)), gA_se, gA_se, gse_130, se_130]
          refine is8 (pc := 97) dX4_tryMoves_97 rfl ?_
          refine il8 (pc := 99) dX4_tryMoves_99 ?_
          refine al0 (pc := 101) dX4_tryMoves_101 ?_
          refine gf_X4_15 (pc := 102) hr dX4_tryMoves_102 ?_
          rw [gse_129]
          refine g_icmpge 120 (pc := 105) dX4_tryMoves_105 (by decide) (fun c105 => ?_) (fun c105 => ?_)
          · skip
            refine ic6 (pc := 120) dX4_tryMoves_120 kc1 rfl ?_
            refine g_goto 24 (pc := 123) dX4_tryMoves_123 (by decide) ?_
            rw [nI_1]
            refine dr7 ?_
            refine dr8 ?_
            exact ih24 (i + 1) _ _ _ _ (by omega) (by rw [← hF, tmL, if_pos c47, if_neg (fun h => h.1 c55), if_neg (Int32.not_lt.mpr c105)])
          · skip
            refine al0 (pc := 108) dX4_tryMoves_108 ?_
            refine il8 (pc := 109) dX4_tryMoves_109 ?_
            refine pf_X4_15 (pc := 111) hr dX4_tryMoves_111 ?_
            rw [se_129]
            refine al0 (pc := 114) dX4_tryMoves_114 ?_
            refine il7 (pc := 115) dX4_tryMoves_115 ?_
            refine pf_X4_9 (pc := 117) hr dX4_tryMoves_117 ?_
            rw [se_128]
            refine ic6 (pc := 120) dX4_tryMoves_120 kc1 rfl ?_
            refine g_goto 24 (pc := 123) dX4_tryMoves_123 (by decide) ?_
            rw [nI_1]
            refine dr7 ?_
            refine dr8 ?_
            exact ih24 (i + 1) _ _ _ _ (by omega) (by rw [← hF, tmL, if_pos c47, if_neg (fun h => h.1 c55), if_pos (Int32.not_le.mp c105)])
        · skip
          refine al1 (pc := 58) dX4_tryMoves_58 ?_
          refine il2 (pc := 59) dX4_tryMoves_59 ?_
          refine il7 (pc := 60) dX4_tryMoves_60 ?_
          refine cl_X4_60 (pc := 62) (c_X4_sumsApart hs) (by decide) ⟨Nat.zero_le _, Nat.zero_le _⟩ (Nat.le_of_ble_eq_true rfl) dX4_tryMoves_62 ?_
          rw [gse_ne _ _ _ _ _ _ _ (Or.inl (by decide)), gA_se, gA_se]
          refine al0 (pc := 65) dX4_tryMoves_65 ?_
          refine gf_X4_15 (pc := 66) hr dX4_tryMoves_66 ?_
          rw [gse_129]
          refine g_icmplt 85 (pc := 69) dX4_tryMoves_69 (by decide) (fun c69 => ?_) (fun c69 => ?_)
          · skip
            refine al0 (pc := 85) dX4_tryMoves_85 ?_
            refine al1 (pc := 86) dX4_tryMoves_86 ?_
            refine il2 (pc := 87) dX4_tryMoves_87 ?_
            refine il7 (pc := 88) dX4_tryMoves_88 ?_
            refine al0 (pc := 90) dX4_tryMoves_90 ?_
            refine gf_X4_15 (pc := 91) hr dX4_tryMoves_91 ?_
            rw [gse_129]
            refine cl_X4_52 (pc := 94) (c_X4_costBelow hr hs) hr (by decide) ⟨Nat.zero_le _, Nat.zero_le _⟩ (Nat.le_of_ble_eq_true rfl) dX4_tryMoves_94 ?_
            rw [gse_ne _ _ _ _ _ _ _ (Or.inl (by decide)), gA_se, gA_se, gse_130, se_130]
            refine is8 (pc := 97) dX4_tryMoves_97 rfl ?_
            refine il8 (pc := 99) dX4_tryMoves_99 ?_
            refine al0 (pc := 101) dX4_tryMoves_101 ?_
            refine gf_X4_15 (pc := 102) hr dX4_tryMoves_102 ?_
            rw [gse_129]
            refine g_icmpge 120 (pc := 105) dX4_tryMoves_105 (by decide) (fun c105 => ?_) (fun c105 => ?_)
            · skip
              refine ic6 (pc := 120) dX4_tryMoves_120 kc1 rfl ?_
              refine g_goto 24 (pc := 123) dX4_tryMoves_123 (by decide) ?_
              rw [nI_1]
              refine dr7 ?_
              refine dr8 ?_
              exact ih24 (i + 1) _ _ _ _ (by omega) (by rw [← hF, tmL, if_pos c47, if_neg (fun h => Int32.not_lt.mpr h.2 c69), if_neg (Int32.not_lt.mpr c105)])
            · skip
              refine al0 (pc := 108) dX4_tryMoves_108 ?_
              refine il8 (pc := 109) dX4_tryMoves_109 ?_
              refine pf_X4_15 (pc := 111) hr dX4_tryMoves_111 ?_
              rw [se_129]
              refine al0 (pc := 114) dX4_tryMoves_114 ?_
              refine il7 (pc := 115) dX4_tryMoves_115 ?_
              refine pf_X4_9 (pc := 117) hr dX4_tryMoves_117 ?_
              rw [se_128]
              refine ic6 (pc := 120) dX4_tryMoves_120 kc1 rfl ?_
              refine g_goto 24 (pc := 123) dX4_tryMoves_123 (by decide) ?_
              rw [nI_1]
              refine dr7 ?_
              refine dr8 ?_
              exact ih24 (i + 1) _ _ _ _ (by omega) (by rw [← hF, tmL, if_pos c47, if_neg (fun h => Int32.not_lt.mpr h.2 c69), if_pos (Int32.not_le.mp c105)])
          · skip
            refine al0 (pc := 72) dX4_tryMoves_72 ?_
            refine g_dupR (pc := 73) dX4_tryMoves_73 ?_
            refine gf_X4_21 (pc := 74) hr dX4_tryMoves_74 ?_
            rw [gse_131]
            refine g_iconst (pc := 77) dX4_tryMoves_77 kc1 ?_
            refine g_iadd (pc := 78) dX4_tryMoves_78 ?_
            refine pf_X4_21 (pc := 79) hr dX4_tryMoves_79 ?_
            rw [se_131]
            refine g_goto 120 (pc := 82) dX4_tryMoves_82 (by decide) ?_
            refine ic6 (pc := 120) dX4_tryMoves_120 kc1 rfl ?_
            refine g_goto 24 (pc := 123) dX4_tryMoves_123 (by decide) ?_
            rw [nI_1]
            refine dr7 ?_
            exact ih24 (i + 1) _ _ _ _ (by omega) (by rw [← hF, tmL, if_pos c47, if_pos ⟨c55, Int32.not_lt.mp c69⟩])
      · skip
        rw [mB_eq0] at c47
        refine g_goto 120 (pc := 50) dX4_tryMoves_50 (by decide) ?_
        refine ic6 (pc := 120) dX4_tryMoves_120 kc1 rfl ?_
        refine g_goto 24 (pc := 123) dX4_tryMoves_123 (by decide) ?_
        rw [nI_1]
        refine dr7 ?_
        exact ih24 (i + 1) _ _ _ _ (by omega) (by rw [← hF, tmL, if_neg c47])
  exact L24 49 0 _ _ _ _ (by omega) rfl
theorem c_X4_best {l : Launch} {G : mG} {Z : mZ} {d : mD} {sr s p q a b : Nat} {bk : Int32} (hr : ob Z 4 sr) (hs : scn Z s p q a b) : CtV l G yX4_best cX4_best 3 4 106 [.ref sr, .ref s, .int bk] Z d (seT d sr (beT (gI d 98 s) (gA d a) (gA d b) bk)) := by
  refine enterV RX4 0 [some (.ref sr), some (.ref s), some (.int bk)] (by decide) rfl rfl rfl (fun X hR => ?_)
  refine al0 (pc := 0) dX4_best_0 ?_
  refine al1 (pc := 1) dX4_best_1 ?_
  refine il2 (pc := 2) dX4_best_2 ?_
  refine g_bipush (pc := 3) dX4_best_3 kb24 ?_
  refine g_iconst (pc := 5) dX4_best_5 kc3 ?_
  refine g_iconst (pc := 6) dX4_best_6 kc0 ?_
  refine cl_X4_24 (pc := 7) (c_X4_tryMoves hr hs) hr (by decide) ⟨Nat.zero_le _, Nat.zero_le _⟩ (Nat.le_of_ble_eq_true rfl) dX4_best_7 ?_
  exact retV (pc := 10) hR dX4_best_10 (rfl)
theorem c_X4_skim {l : Launch} {G : mG} {Z : mZ} {d : mD} {sr s p q a b : Nat} {bk : Int32} (hr : ob Z 4 sr) (hs : scn Z s p q a b) : CtV l G yX4_skim cX4_skim 3 4 106 [.ref sr, .ref s, .int bk] Z d (seT d sr (skT (gI d 98 s) (gA d a) (gA d b) bk)) := by
  refine enterV RX4 0 [some (.ref sr), some (.ref s), some (.int bk)] (by decide) rfl rfl rfl (fun X hR => ?_)
  refine al0 (pc := 0) dX4_skim_0 ?_
  refine al1 (pc := 1) dX4_skim_1 ?_
  refine il2 (pc := 2) dX4_skim_2 ?_
  refine g_bipush (pc := 3) dX4_skim_3 kb24 ?_
  refine g_iconst (pc := 5) dX4_skim_5 kc3 ?_
  refine g_iconst (pc := 6) dX4_skim_6 kc1 ?_
  refine cl_X4_24 (pc := 7) (c_X4_tryMoves hr hs) hr (by decide) ⟨Nat.zero_le _, Nat.zero_le _⟩ (Nat.le_of_ble_eq_true rfl) dX4_skim_7 ?_
  exact retV (pc := 10) hR dX4_skim_10 (rfl)
theorem c_X4_quick {l : Launch} {G : mG} {Z : mZ} {d : mD} {sr s p q a b : Nat} {bk : Int32} (hr : ob Z 4 sr) (hs : scn Z s p q a b) : CtV l G yX4_quick cX4_quick 4 4 106 [.ref sr, .ref s, .int bk] Z d (seT d sr (quT (gI d 98 s) (gA d a) (gA d b) bk)) := by
  refine enterV RX4 1 [some (.ref sr), some (.ref s), some (.int bk), none] (by decide) rfl rfl rfl (fun X hR => ?_)
  refine al1 (pc := 0) dX4_quick_0 ?_
  refine il2 (pc := 1) dX4_quick_1 ?_
  refine cl_X4_28 (pc := 2) (c_X4_smallMove hs) (by decide) ⟨Nat.zero_le _, Nat.zero_le _⟩ (Nat.le_of_ble_eq_true rfl) dX4_quick_2 ?_
  refine is3 (pc := 5) dX4_quick_5 rfl ?_
  refine al0 (pc := 6) dX4_quick_6 ?_
  refine al1 (pc := 7) dX4_quick_7 ?_
  refine il2 (pc := 8) dX4_quick_8 ?_
  refine g_iconst (pc := 9) dX4_quick_9 kc2 ?_
  refine il3 (pc := 10) dX4_quick_10 ?_
  refine cl_X4_32 (pc := 11) (c_X8_xOf) (by decide) ⟨Nat.zero_le _, Nat.zero_le _⟩ (Nat.le_of_ble_eq_true rfl) dX4_quick_11 ?_
  refine g_imul (pc := 14) dX4_quick_14 ?_
  refine g_iconst (pc := 15) dX4_quick_15 kc2 ?_
  refine il3 (pc := 16) dX4_quick_16 ?_
  refine cl_X4_36 (pc := 17) (c_X8_yOf) (by decide) ⟨Nat.zero_le _, Nat.zero_le _⟩ (Nat.le_of_ble_eq_true rfl) dX4_quick_17 ?_
  refine g_imul (pc := 20) dX4_quick_20 ?_
  refine cl_X4_39 (pc := 21) (c_X8_moveBy) (by decide) ⟨Nat.zero_le _, Nat.zero_le _⟩ (Nat.le_of_ble_eq_true rfl) dX4_quick_21 ?_
  refine g_iconst (pc := 24) dX4_quick_24 kc1 ?_
  refine g_iconst (pc := 25) dX4_quick_25 kc0 ?_
  refine cl_X4_24 (pc := 26) (c_X4_tryMoves hr hs) hr (by decide) ⟨Nat.zero_le _, Nat.zero_le _⟩ (Nat.le_of_ble_eq_true rfl) dX4_quick_26 ?_
  exact retV (pc := 29) hR dX4_quick_29 (rfl)
theorem c_X4_pan {l : Launch} {G : mG} {Z : mZ} {d : mD} {sr s p q a b : Nat} (hr : ob Z 4 sr) (hs : scn Z s p q a b) : CtV l G yX4_pan cX4_pan 5 4 101 [.ref sr, .ref s] Z d (paD d sr (paL (gI d 98 s) (gA d a) (gA d b) 49 0 (gI d 128 sr) 1000000 (gI d 130 sr))) := by
  refine enterV RX4 3 [some (.ref sr), some (.ref s), none, none, none] (by decide) rfl rfl rfl (fun X hR => ?_)
  refine al0 (pc := 0) dX4_pan_0 ?_
  refine g_ldc (pc := 1) dX4_pan_1 wk_X4_43 ?_
  refine pf_X4_15 (pc := 3) hr dX4_pan_3 ?_
  refine g_iconst (pc := 6) dX4_pan_6 kc0 ?_
  refine is2 (pc := 7) dX4_pan_7 rfl ?_
  have L8 : ∀ (n i : Nat) (mv : Int32) (co : Int32) (lk : Int32), i + n = 49 → (paL (gI d 98 s) (gA d a) (gA d b) n i mv co lk = paL (gI d 98 s) (gA d a) (gA d b) 49 0 (gI d 128 sr) 1000000 (gI d 130 sr)) → mGo l G (mRm 4 101) X RX4 cX4_pan 5 0 0 Z 8 [some (.ref sr), some (.ref s), some (.int (nI i)), none, none] [] (seD d sr mv co lk (gI d 131 sr)) := by
    intro n; induction n with
    | zero =>
      intro i mv co lk hin8 hF
      refine il2 (pc := 8) dX4_pan_8 ?_
      refine g_bipush (pc := 9) dX4_pan_9 kb49 ?_
      refine g_icmpge 75 (pc := 11) dX4_pan_11 (by decide) (fun c11 => ?_) (fun c11 => absurd (nI_le (a := 49) (by omega) (by omega)) c11)
      exact retV (pc := 75) hR dX4_pan_75 (by rw [← hF]; rfl)
    | succ n ih8 =>
      intro i mv co lk hin8 hF
      refine il2 (pc := 8) dX4_pan_8 ?_
      refine g_bipush (pc := 9) dX4_pan_9 kb49 ?_
      refine g_icmpge 75 (pc := 11) dX4_pan_11 (by decide) (fun c11 => absurd c11 (nI_ge (b := 49) (by omega) (by omega))) (fun c11 => ?_)
      refine g_iconst (pc := 14) dX4_pan_14 kc0 ?_
      refine is3 (pc := 15) dX4_pan_15 rfl ?_
      refine g_iconst (pc := 16) dX4_pan_16 kc0 ?_
      refine is4 (pc := 17) dX4_pan_17 rfl ?_
      have L19 : ∀ (n2 i2 : Nat) (sm : Int32) (l2 : Int32), i2 + n2 = 6 → (paI (gI d 98 s) (gA d a) (gA d b) (ordF i) n2 i2 sm l2 = paI (gI d 98 s) (gA d a) (gA d b) (ordF i) 6 0 0 lk) → mGo l G (mRm 4 101) X RX4 cX4_pan 5 0 0 Z 19 [some (.ref sr), some (.ref s), some (.int (nI i)), some (.int sm), some (.int (nI i2))] [] (seD d sr mv co l2 (gI d 131 sr)) := by
        intro n2; induction n2 with
        | zero =>
          intro i2 sm l2 hin19 hG
          have g1 : sm = (paI (gI d 98 s) (gA d a) (gA d b) (ordF i) 6 0 0 lk).1 := by rw [← hG]; rfl
          have g2 : l2 = (paI (gI d 98 s) (gA d a) (gA d b) (ordF i) 6 0 0 lk).2 := by rw [← hG]; rfl
          subst g1
          subst g2
          refine il4 (pc := 19) dX4_pan_19 ?_
          refine g_bipush (pc := 21) dX4_pan_21 kb6 ?_
          refine g_icmpge 47 (pc := 23) dX4_pan_23 (by decide) (fun c23 => ?_) (fun c23 => absurd (nI_le (a := 6) (by omega) (by omega)) c23)
          refine il3 (pc := 47) dX4_pan_47 ?_
          refine al0 (pc := 48) dX4_pan_48 ?_
          refine gf_X4_15 (pc := 49) hr dX4_pan_49 ?_
          rw [gse_129]
          refine g_icmpge 69 (pc := 52) dX4_pan_52 (by decide) (fun c52 => ?_) (fun c52 => ?_)
          · skip
            refine ic2 (pc := 69) dX4_pan_69 kc1 rfl ?_
            refine g_goto 8 (pc := 72) dX4_pan_72 (by decide) ?_
            rw [nI_1]
            refine dr3 ?_
            refine dr4 ?_
            exact ih8 (i + 1) _ _ _ (by omega) (by rw [← hF, paL, if_neg (Int32.not_lt.mpr c52)])
          · skip
            refine al0 (pc := 55) dX4_pan_55 ?_
            refine il3 (pc := 56) dX4_pan_56 ?_
            refine pf_X4_15 (pc := 57) hr dX4_pan_57 ?_
            rw [se_129]
            refine al0 (pc := 60) dX4_pan_60 ?_
            refine gs_X4_44 (pc := 61) dX4_pan_61 ?_
            refine il2 (pc := 64) dX4_pan_64 ?_
            refine g_ordL (pc := 65) i (by omega) (rfl) dX4_pan_65 ?_
            refine pf_X4_9 (pc := 66) hr dX4_pan_66 ?_
            rw [se_128]
            refine ic2 (pc := 69) dX4_pan_69 kc1 rfl ?_
            refine g_goto 8 (pc := 72) dX4_pan_72 (by decide) ?_
            rw [nI_1]
            refine dr3 ?_
            refine dr4 ?_
            exact ih8 (i + 1) _ _ _ (by omega) (by rw [← hF, paL, if_pos (Int32.not_le.mp c52)])
        | succ n2 ih19 =>
          intro i2 sm l2 hin19 hG
          refine il4 (pc := 19) dX4_pan_19 ?_
          refine g_bipush (pc := 21) dX4_pan_21 kb6 ?_
          refine g_icmpge 47 (pc := 23) dX4_pan_23 (by decide) (fun c23 => absurd c23 (nI_ge (b := 6) (by omega) (by omega))) (fun c23 => ?_)
          refine il3 (pc := 26) dX4_pan_26 ?_
          refine al0 (pc := 27) dX4_pan_27 ?_
          refine al1 (pc := 28) dX4_pan_28 ?_
          refine il4 (pc := 29) dX4_pan_29 ?_
          refine gs_X4_44 (pc := 31) dX4_pan_31 ?_
          refine il2 (pc := 34) dX4_pan_34 ?_
          refine g_ordL (pc := 35) i (by omega) (rfl) dX4_pan_35 ?_
          refine cl_X4_48 (pc := 36) (c_X4_wholeCost hr hs) hr (by decide) ⟨Nat.zero_le _, Nat.zero_le _⟩ (Nat.le_of_ble_eq_true rfl) dX4_pan_36 ?_
          rw [gse_ne _ _ _ _ _ _ _ (Or.inl (by decide)), gA_se, gA_se, gse_130, se_130]
          refine g_iadd (pc := 39) dX4_pan_39 ?_
          refine is3 (pc := 40) dX4_pan_40 rfl ?_
          refine ic4 (pc := 41) dX4_pan_41 kc1 rfl ?_
          refine g_goto 19 (pc := 44) dX4_pan_44 (by decide) ?_
          rw [nI_1]
          exact ih19 (i2 + 1) _ _ (by omega) hG
      exact L19 6 0 _ _ (by omega) rfl
  have q9 := L8 49 0 (gI d 128 sr) 1000000 (gI d 130 sr) (by omega) rfl
  rw [← se_129 d sr (gI d 128 sr) (gI d 129 sr), se_self] at q9
  exact q9
