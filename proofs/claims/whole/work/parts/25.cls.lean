def mInj (Z : mZ) (le dt mo ne : Nat) : Prop := (∀ s s', scv Z s → scv Z s' → oA Z s = oA Z s' → s = s') ∧ (∀ s s', scv Z s → scv Z s' → nA Z s = nA Z s' → s = s') ∧ (∀ s s', scv Z s → scv Z s' → oA Z s ≠ nA Z s') ∧ (∀ s, scv Z s → oA Z s ≠ le ∧ oA Z s ≠ dt ∧ oA Z s ≠ mo ∧ oA Z s ≠ ne ∧ nA Z s ≠ le ∧ nA Z s ≠ dt ∧ nA Z s ≠ mo ∧ nA Z s ≠ ne) ∧ le ≠ dt ∧ le ≠ mo ∧ le ≠ ne ∧ dt ≠ mo ∧ dt ≠ ne ∧ mo ≠ ne
/-- the shape of an object of the class: all that it was made of -/
def clS (Z : mZ) (x st kp tp sr ha fi sp sh sc pa kc kq le dt mo ne : Nat) : Prop := ob Z 8 x ∧ rf Z 256 x = some st ∧ rf Z 257 x = some kp ∧ rf Z 259 x = some tp ∧ rf Z 260 x = some sr ∧ rf Z 261 x = some ha ∧ rf Z 262 x = some fi ∧ rf Z 263 x = some sp ∧ rf Z 264 x = some sh ∧ sty Z st sc pa ∧ sty Z kp kc kq ∧ tap Z tp le dt ∧ ob Z 4 sr ∧ ob Z 1 ha ∧ fld Z fi mo ne ∧ scv Z sp ∧ ar Z 13 sh 4 ∧ mInj Z le dt mo ne ∧ sc ≠ sp ∧ kc ≠ sp ∧ sc ≠ kc ∧ st ≠ kp ∧ pa ≠ kq ∧ pa ≠ sh ∧ kq ≠ sh
theorem clS.o8 {Z : mZ} {x st kp tp sr ha fi sp sh sc pa kc kq le dt mo ne : Nat} (h : clS Z x st kp tp sr ha fi sp sh sc pa kc kq le dt mo ne) : ob Z 8 x := h.1
theorem clS.r0 {Z : mZ} {x st kp tp sr ha fi sp sh sc pa kc kq le dt mo ne : Nat} (h : clS Z x st kp tp sr ha fi sp sh sc pa kc kq le dt mo ne) : rf Z 256 x = some st := h.2.1
theorem clS.r1 {Z : mZ} {x st kp tp sr ha fi sp sh sc pa kc kq le dt mo ne : Nat} (h : clS Z x st kp tp sr ha fi sp sh sc pa kc kq le dt mo ne) : rf Z 257 x = some kp := h.2.2.1
theorem clS.r3 {Z : mZ} {x st kp tp sr ha fi sp sh sc pa kc kq le dt mo ne : Nat} (h : clS Z x st kp tp sr ha fi sp sh sc pa kc kq le dt mo ne) : rf Z 259 x = some tp := h.2.2.2.1
theorem clS.r4 {Z : mZ} {x st kp tp sr ha fi sp sh sc pa kc kq le dt mo ne : Nat} (h : clS Z x st kp tp sr ha fi sp sh sc pa kc kq le dt mo ne) : rf Z 260 x = some sr := h.2.2.2.2.1
theorem clS.r5 {Z : mZ} {x st kp tp sr ha fi sp sh sc pa kc kq le dt mo ne : Nat} (h : clS Z x st kp tp sr ha fi sp sh sc pa kc kq le dt mo ne) : rf Z 261 x = some ha := h.2.2.2.2.2.1
theorem clS.r6 {Z : mZ} {x st kp tp sr ha fi sp sh sc pa kc kq le dt mo ne : Nat} (h : clS Z x st kp tp sr ha fi sp sh sc pa kc kq le dt mo ne) : rf Z 262 x = some fi := h.2.2.2.2.2.2.1
theorem clS.r7 {Z : mZ} {x st kp tp sr ha fi sp sh sc pa kc kq le dt mo ne : Nat} (h : clS Z x st kp tp sr ha fi sp sh sc pa kc kq le dt mo ne) : rf Z 263 x = some sp := h.2.2.2.2.2.2.2.1
theorem clS.r8 {Z : mZ} {x st kp tp sr ha fi sp sh sc pa kc kq le dt mo ne : Nat} (h : clS Z x st kp tp sr ha fi sp sh sc pa kc kq le dt mo ne) : rf Z 264 x = some sh := h.2.2.2.2.2.2.2.2.1
theorem clS.st {Z : mZ} {x st kp tp sr ha fi sp sh sc pa kc kq le dt mo ne : Nat} (h : clS Z x st kp tp sr ha fi sp sh sc pa kc kq le dt mo ne) : sty Z st sc pa := h.2.2.2.2.2.2.2.2.2.1
theorem clS.kp {Z : mZ} {x st kp tp sr ha fi sp sh sc pa kc kq le dt mo ne : Nat} (h : clS Z x st kp tp sr ha fi sp sh sc pa kc kq le dt mo ne) : sty Z kp kc kq := h.2.2.2.2.2.2.2.2.2.2.1
theorem clS.tp {Z : mZ} {x st kp tp sr ha fi sp sh sc pa kc kq le dt mo ne : Nat} (h : clS Z x st kp tp sr ha fi sp sh sc pa kc kq le dt mo ne) : tap Z tp le dt := h.2.2.2.2.2.2.2.2.2.2.2.1
theorem clS.sr {Z : mZ} {x st kp tp sr ha fi sp sh sc pa kc kq le dt mo ne : Nat} (h : clS Z x st kp tp sr ha fi sp sh sc pa kc kq le dt mo ne) : ob Z 4 sr := h.2.2.2.2.2.2.2.2.2.2.2.2.1
theorem clS.ha {Z : mZ} {x st kp tp sr ha fi sp sh sc pa kc kq le dt mo ne : Nat} (h : clS Z x st kp tp sr ha fi sp sh sc pa kc kq le dt mo ne) : ob Z 1 ha := h.2.2.2.2.2.2.2.2.2.2.2.2.2.1
theorem clS.fi {Z : mZ} {x st kp tp sr ha fi sp sh sc pa kc kq le dt mo ne : Nat} (h : clS Z x st kp tp sr ha fi sp sh sc pa kc kq le dt mo ne) : fld Z fi mo ne := h.2.2.2.2.2.2.2.2.2.2.2.2.2.2.1
theorem clS.spv {Z : mZ} {x st kp tp sr ha fi sp sh sc pa kc kq le dt mo ne : Nat} (h : clS Z x st kp tp sr ha fi sp sh sc pa kc kq le dt mo ne) : scv Z sp := h.2.2.2.2.2.2.2.2.2.2.2.2.2.2.2.1
theorem clS.sh {Z : mZ} {x st kp tp sr ha fi sp sh sc pa kc kq le dt mo ne : Nat} (h : clS Z x st kp tp sr ha fi sp sh sc pa kc kq le dt mo ne) : ar Z 13 sh 4 := h.2.2.2.2.2.2.2.2.2.2.2.2.2.2.2.2.1
theorem clS.inj {Z : mZ} {x st kp tp sr ha fi sp sh sc pa kc kq le dt mo ne : Nat} (h : clS Z x st kp tp sr ha fi sp sh sc pa kc kq le dt mo ne) : mInj Z le dt mo ne := h.2.2.2.2.2.2.2.2.2.2.2.2.2.2.2.2.2.1
theorem clS.n1 {Z : mZ} {x st kp tp sr ha fi sp sh sc pa kc kq le dt mo ne : Nat} (h : clS Z x st kp tp sr ha fi sp sh sc pa kc kq le dt mo ne) : sc ≠ sp := h.2.2.2.2.2.2.2.2.2.2.2.2.2.2.2.2.2.2.1
theorem clS.n2 {Z : mZ} {x st kp tp sr ha fi sp sh sc pa kc kq le dt mo ne : Nat} (h : clS Z x st kp tp sr ha fi sp sh sc pa kc kq le dt mo ne) : kc ≠ sp := h.2.2.2.2.2.2.2.2.2.2.2.2.2.2.2.2.2.2.2.1
theorem clS.n3 {Z : mZ} {x st kp tp sr ha fi sp sh sc pa kc kq le dt mo ne : Nat} (h : clS Z x st kp tp sr ha fi sp sh sc pa kc kq le dt mo ne) : sc ≠ kc := h.2.2.2.2.2.2.2.2.2.2.2.2.2.2.2.2.2.2.2.2.1
theorem clS.n4 {Z : mZ} {x st kp tp sr ha fi sp sh sc pa kc kq le dt mo ne : Nat} (h : clS Z x st kp tp sr ha fi sp sh sc pa kc kq le dt mo ne) : st ≠ kp := h.2.2.2.2.2.2.2.2.2.2.2.2.2.2.2.2.2.2.2.2.2.1
theorem clS.n5 {Z : mZ} {x st kp tp sr ha fi sp sh sc pa kc kq le dt mo ne : Nat} (h : clS Z x st kp tp sr ha fi sp sh sc pa kc kq le dt mo ne) : pa ≠ kq := h.2.2.2.2.2.2.2.2.2.2.2.2.2.2.2.2.2.2.2.2.2.2.1
theorem clS.n6 {Z : mZ} {x st kp tp sr ha fi sp sh sc pa kc kq le dt mo ne : Nat} (h : clS Z x st kp tp sr ha fi sp sh sc pa kc kq le dt mo ne) : pa ≠ sh := h.2.2.2.2.2.2.2.2.2.2.2.2.2.2.2.2.2.2.2.2.2.2.2.1
theorem clS.n7 {Z : mZ} {x st kp tp sr ha fi sp sh sc pa kc kq le dt mo ne : Nat} (h : clS Z x st kp tp sr ha fi sp sh sc pa kc kq le dt mo ne) : kq ≠ sh := h.2.2.2.2.2.2.2.2.2.2.2.2.2.2.2.2.2.2.2.2.2.2.2.2
theorem clS.scV {Z : mZ} {x st kp tp sr ha fi sp sh sc pa kc kq le dt mo ne : Nat} (h : clS Z x st kp tp sr ha fi sp sh sc pa kc kq le dt mo ne) : scv Z sc := h.st.2.2.2.1
theorem clS.kcV {Z : mZ} {x st kp tp sr ha fi sp sh sc pa kc kq le dt mo ne : Nat} (h : clS Z x st kp tp sr ha fi sp sh sc pa kc kq le dt mo ne) : scv Z kc := h.kp.2.2.2.1
theorem clS.ama {Z : mZ} {x st kp tp sr ha fi sp sh sc pa kc kq le dt mo ne : Nat} (h : clS Z x st kp tp sr ha fi sp sh sc pa kc kq le dt mo ne) : oA Z sc ≠ mo := (h.inj.2.2.2.1 sc h.scV).2.2.1
theorem clS.bma {Z : mZ} {x st kp tp sr ha fi sp sh sc pa kc kq le dt mo ne : Nat} (h : clS Z x st kp tp sr ha fi sp sh sc pa kc kq le dt mo ne) : nA Z sc ≠ mo := (h.inj.2.2.2.1 sc h.scV).2.2.2.2.2.2.1
theorem clS.ab {Z : mZ} {x st kp tp sr ha fi sp sh sc pa kc kq le dt mo ne : Nat} (h : clS Z x st kp tp sr ha fi sp sh sc pa kc kq le dt mo ne) : oA Z sc ≠ nA Z sc := h.inj.2.2.1 sc sc h.scV h.scV
theorem clS.bsp {Z : mZ} {x st kp tp sr ha fi sp sh sc pa kc kq le dt mo ne : Nat} (h : clS Z x st kp tp sr ha fi sp sh sc pa kc kq le dt mo ne) : nA Z sp ≠ nA Z sc := fun e => h.n1 (h.inj.2.1 sc sp h.scV h.spv e.symm)
theorem clS.asp {Z : mZ} {x st kp tp sr ha fi sp sh sc pa kc kq le dt mo ne : Nat} (h : clS Z x st kp tp sr ha fi sp sh sc pa kc kq le dt mo ne) : oA Z sp ≠ oA Z sc := fun e => h.n1 (h.inj.1 sc sp h.scV h.spv e.symm)
theorem clS.mn {Z : mZ} {x st kp tp sr ha fi sp sh sc pa kc kq le dt mo ne : Nat} (h : clS Z x st kp tp sr ha fi sp sh sc pa kc kq le dt mo ne) : mo ≠ ne := h.inj.2.2.2.2.2.2.2.2.2
theorem clS.ld {Z : mZ} {x st kp tp sr ha fi sp sh sc pa kc kq le dt mo ne : Nat} (h : clS Z x st kp tp sr ha fi sp sh sc pa kc kq le dt mo ne) : le ≠ dt := h.inj.2.2.2.2.1
abbrev tN (v : Int32) : Nat := v.toNatClampNeg
theorem wth_nI {v : Int32} (m : Nat) (hm : m < 2 ^ 31) (h : wthn v 0 (nI m)) : v = nI (tN v) ∧ tN v ≤ m := by
  obtain ⟨h1, h2⟩ := h
  obtain ⟨j, hj, rfl⟩ := nI_of (Int32.not_lt.mpr h1)
  have e : tN (nI j) = j := nI_clamp hj
  rw [e]
  exact ⟨rfl, (nI_leI hj hm).mp h2⟩
def nk (k : Nat) : Nat := if k = 8 then 8 else k + 1
theorem nk_le {k : Nat} (h : k ≤ 8) : nk k ≤ 8 := by unfold nk; split <;> omega
theorem keD_194 (Z : mZ) (d : mD) (t sc pa k : Nat) : gI (keD Z d t sc pa k) 194 t = nI (nk k) := by
  unfold keD nk
  split
  · rw [gI_eq]; rfl
  · rw [gI_eq]
theorem keD_gO (Z : mZ) (d : mD) (t sc pa k b : Nat) (h : b ≠ pa) : gO (keD Z d t sc pa k) b = gO d b := by
  unfold keD
  split
  · show gO (tO d pa _) b = _
    rw [gO_tO, if_neg h]
  · rfl
theorem pst_lo {Z : mZ} {d : mD} {t pa : Nat} (hp : pst Z d pa) : pst Z (loD d t pa) pa := by
  intro i hi
  have e9 : gO (loD d t pa) pa i = rotO (gO d pa) i := by show gO (tO d pa _) pa i = _; rw [gO_tO, if_pos rfl]
  have h8 := hp (if i < 7 then i + 1 else 0) (by split <;> omega)
  have e8 : rotO (gO d pa) i = gO d pa (if i < 7 then i + 1 else 0) := by
    unfold rotO
    by_cases h7 : i < 7
    · rw [if_pos h7, if_pos h7]
    · rw [if_neg h7, if_neg h7, if_pos (by omega)]
  have e7 : psO (loD d t pa) pa i = psO d pa (if i < 7 then i + 1 else 0) := by unfold psO; rw [e9, e8]
  rw [e9, e8, e7]; exact h8
theorem pst_ke {Z : mZ} {d : mD} {t sc pa k : Nat} (hp : pst Z d pa) : pst Z (keD Z d t sc pa k) pa := by
  unfold keD
  split
  · exact (((pst_lo hp).scBz _ _).sI _ _ _)
  · exact ((hp.scBz _ _).sI _ _ _)
theorem pst_tA {Z : mZ} {d : mD} {pa a : Nat} {f : Nat → Int32} (hp : pst Z d pa) : pst Z (tA d a f) pa := hp
/-- sheets -/
def iA (Z : mZ) (h : Nat) : Nat := (rf Z 160 h).getD 0
def shs (Z : mZ) (d : mD) (sh : Nat) : Prop := ∀ i, i < 4 → gO d sh i = some (psO d sh i) ∧ sht Z (psO d sh i) (iA Z (psO d sh i))
abbrev mBAD : Int32 := -1000001
def tyR (n : Nat) (c : Int32) : Int32 := if c < 32 ∨ ¬ c ≤ 126 then -1000001 else if n < 120 then nI (n + 1) else -1000003
def tyD (d : mD) (tp le n : Nat) (c : Int32) : mD := if c < 32 ∨ ¬ c ≤ 126 then d else adD d tp le n c
def piE (d : mD) (tp dt : Nat) (rd : Int32 × (Nat → Int32) × Int32 × Nat) : mD := sI (tpD d tp dt rd.2.1 rd.2.2.1 (nI rd.2.2.2)) 225 tp 0
def piO (e : mD) (a dt : Nat) (c : Prop) [Decidable c] : mD := if c then e else tA e a (va_cpy (gA e dt) (gA e a) 0 0 96)
def piD (d : mD) (tp dt a b st : Nat) (rd : Int32 × (Nat → Int32) × Int32 × Nat) : mD := if rd.1 < 0 then piE d tp dt rd else sI (piO (piO (piE d tp dt rd) a dt (rd.2.2.1 = 110)) b dt (rd.2.2.1 = 111)) 194 st 0
theorem piO_t (e : mD) (a dt : Nat) (c : Prop) [Decidable c] (h : c) : piO e a dt c = e := if_pos h
theorem piO_f (e : mD) (a dt : Nat) (c : Prop) [Decidable c] (h : ¬ c) : piO e a dt c = tA e a (va_cpy (gA e dt) (gA e a) 0 0 96) := if_neg h
theorem gI_piE (d : mD) (tp dt : Nat) (rd : Int32 × (Nat → Int32) × Int32 × Nat) : gI (piE d tp dt rd) 228 tp = rd.2.2.1 := by rw [piE, gI_ne (by decide), gI_tp228]
theorem gI_piO (e : mD) (a dt : Nat) (c : Prop) [Decidable c] (f b : Nat) : gI (piO e a dt c) f b = gI e f b := by unfold piO; split <;> rfl
def dotR (fo fn : Nat → Int32) (c r w : Int32) : Int32 := if (wthn c (-3) 14 ∧ wthn r (-3) 10) ∧ wthn w 0 1 then (if w = 0 then pix fo c r else pix fn c r) else -1000001
abbrev inPic (c r : Int32) : Prop := wthn c 0 11 ∧ wthn r 0 7
def paiR (fn : Nat → Int32) (c r v : Int32) : Int32 := if inPic c r ∧ wthn v 0 9 then (if pix fn c r = v then -1000002 else pix fn c r) else -1000001
def paiD (Z : mZ) (d : mD) (st sc pa k : Nat) (c r v : Int32) : mD := if (inPic c r ∧ wthn v 0 9) ∧ ¬ pix (gA d (nA Z sc)) c r = v then tA (keD Z d st sc pa k) (nA Z sc) (upd (gA (keD Z d st sc pa k) (nA Z sc)) (12 * tN r + tN c) v) else d
def shL (g : Nat → Int32) (x y : Int32) : Nat → Nat → (Nat → Int32) → (Nat → Int32)
  | 0, _, f => f
  | n + 1, i, f => shL g x y n (i + 1) (upd f i (pix g (mRem (nI i) 12 + x) (nI i / 12 + y)))
def shE (Z : mZ) (d : mD) (sc sp : Nat) : mD := tA d (nA Z sp) (va_cpy (gA d (nA Z sc)) (gA d (nA Z sp)) 0 0 96)
def shF (Z : mZ) (e : mD) (sc sp : Nat) (x y : Int32) : mD := tA e (nA Z sc) (shL (gA e (nA Z sp)) x y 96 0 (gA e (nA Z sc)))
def shiD (Z : mZ) (d : mD) (st sc pa k sp : Nat) (x y : Int32) : mD := if wthn x (-3) 3 ∧ wthn y (-3) 3 then shF Z (shE Z (keD Z d st sc pa k) sc sp) sc sp x y else d
def shiR (Z : mZ) (e : mD) (sc sp : Nat) (x y : Int32) : Int32 := if wthn x (-3) 3 ∧ wthn y (-3) 3 then cntL (fun i => decide (¬ gA e (nA Z sc) i = gA e (nA Z sp) i)) 96 0 0 else -1000001
def takD (Z : mZ) (e : mD) (sc : Nat) : mD := tA e (oA Z sc) (va_cpy (gA e (nA Z sc)) (gA e (oA Z sc)) 0 0 96)
def likR (kd v : Int32) : Int32 := if wthn v 0 4 then (if kd = v then -1000002 else kd) else -1000001
def likD (Z : mZ) (d : mD) (st sc pa k : Nat) (v : Int32) : mD := if wthn v 0 4 ∧ ¬ gI d 98 sc = v then sI (keD Z d st sc pa k) 98 sc v else d
def noL (Z : mZ) (st sc pa : Nat) : Nat → mD → Nat → mD
  | 0, d, _ => d
  | n + 1, d, k => noL Z st sc pa n (scT (keD Z d st sc pa k) sc (nA Z sc)) (nk k)
def fiT (Z : mZ) (d : mD) (sc mo sr : Nat) : (Nat → Int32) × (Int32 × Int32 × Int32 × Int32) := fiL (gI d 98 sc) (gA d (oA Z sc)) (gA d (nA Z sc)) 6 0 (gA d mo) (gI d 128 sr, gI d 129 sr, gI d 130 sr, gI d 131 sr)
def lacI (Z : mZ) (d : mD) (sc mo sr : Nat) : Int32 := cntL (lkP (fiT Z d sc mo sr).1 (gA d (oA Z sc)) (gA d (nA Z sc))) 96 0 0
theorem lac_fi {Z : mZ} {d : mD} {sc mo sr : Nat} (h1 : oA Z sc ≠ mo) (h2 : nA Z sc ≠ mo) : cntL (lkP (gA (fiD d sr mo (fiT Z d sc mo sr)) mo) (gA (fiD d sr mo (fiT Z d sc mo sr)) (oA Z sc)) (gA (fiD d sr mo (fiT Z d sc mo sr)) (nA Z sc))) 96 0 0 = lacI Z d sc mo sr := by
  rw [fiD, gA_tA, if_pos rfl, gA_tA, if_neg h1, gA_tA, if_neg h2]; rfl
theorem c_X8_type {l : Launch} {G : mG} {Z : mZ} {d : mD} {x st kp tp sr ha fi sp sh sc pa kc kq le dt mo ne : Nat} {n : Nat} {c : Int32} (hx : clS Z x st kp tp sr ha fi sp sh sc pa kc kq le dt mo ne) (hn : gI d 225 tp = nI n) (hn2 : n ≤ 120) : CtI l G yX8_type cX8_type 2 .int 1 21 [.ref x, .int c] Z d (tyR n c) (tyD d tp le n c) := by
  obtain ⟨p, q, hs⟩ := hx.scV
  obtain ⟨p2, q2, hs2⟩ := hx.spv
  refine enterI RX8 0 [some (.ref x), some (.int c)] (by decide) rfl (rfl) rfl rfl (fun X hR => ?_)
  refine il1 (pc := 0) dX8_type_0 ?_
  refine g_bipush (pc := 1) dX8_type_1 kb32 ?_
  refine g_icmplt 12 (pc := 3) dX8_type_3 (by decide) (fun c3 => ?_) (fun c3 => ?_)
  · skip
    refine g_ldc (pc := 12) dX8_type_12 wk_X8_65 ?_
    exact retI (pc := 14) hR dX8_type_14 (by rw [tyR, if_pos]; simp [← Int32.not_le, c3]) (by rw [tyD, if_pos]; simp [← Int32.not_le, c3])
  · skip
    refine il1 (pc := 6) dX8_type_6 ?_
    refine g_bipush (pc := 7) dX8_type_7 kb126 ?_
    refine g_icmple 15 (pc := 9) dX8_type_9 (by decide) (fun c9 => ?_) (fun c9 => ?_)
    · skip
      refine al0 (pc := 15) dX8_type_15 ?_
      refine gf_X8_26 (pc := 16) hx.o8 hx.r3 dX8_type_16 ?_
      refine il1 (pc := 19) dX8_type_19 ?_
      refine cl_X8_66 (pc := 20) (c_X7_add hx.tp hn hn2) hx.tp.1 (by decide) ⟨Nat.zero_le _, Nat.zero_le _⟩ (Nat.le_of_ble_eq_true rfl) dX8_type_20 ?_
      refine g_ifeq 36 (pc := 23) dX8_type_23 (by decide) (fun c23 => ?_) (fun c23 => ?_)
      · skip
        (try simp only [mB_eq0, Decidable.not_not] at c23)
        refine g_ldc (pc := 36) dX8_type_36 wk_X8_74 ?_
        exact retI (pc := 38) hR dX8_type_38 (by rw [tyR, if_neg (by simp [← Int32.not_le] at *; simp [*]), if_neg c23]) (by rw [tyD, if_neg (by simp [← Int32.not_le] at *; simp [*])])
      · skip
        (try simp only [mB_eq0, Decidable.not_not] at c23)
        refine al0 (pc := 26) dX8_type_26 ?_
        refine gf_X8_26 (pc := 27) hx.o8 hx.r3 dX8_type_27 ?_
        refine gf_X8_70 (pc := 30) hx.tp.1 dX8_type_30 ?_
        refine g_goto 38 (pc := 33) dX8_type_33 (by decide) ?_
        exact retI (pc := 38) hR dX8_type_38 (by rw [tyR, if_neg (by simp [← Int32.not_le] at *; simp [*]), if_pos c23]; simp [adD, c23, gI_eq]) (by rw [tyD, if_neg (by simp [← Int32.not_le] at *; simp [*])])
    · skip
      refine g_ldc (pc := 12) dX8_type_12 wk_X8_65 ?_
      exact retI (pc := 14) hR dX8_type_14 (by rw [tyR, if_pos]; simp [← Int32.not_le, c3, c9]) (by rw [tyD, if_pos]; simp [← Int32.not_le, c3, c9])
theorem c_X8_picture {l : Launch} {G : mG} {Z : mZ} {d : mD} {x st kp tp sr ha fi sp sh sc pa kc kq le dt mo ne : Nat} {n : Nat} (hx : clS Z x st kp tp sr ha fi sp sh sc pa kc kq le dt mo ne) (hn : gI d 225 tp = nI n) (hn2 : n ≤ 120) : CtI l G yX8_picture cX8_picture 2 .int 2 81 [.ref x] Z d (rdL (gA d le) n n 0 (gA d dt) 0 0 0).1 (piD d tp dt (oA Z sc) (nA Z sc) st (rdL (gA d le) n n 0 (gA d dt) 0 0 0)) := by
  obtain ⟨p, q, hs⟩ := hx.scV
  obtain ⟨p2, q2, hs2⟩ := hx.spv
  obtain ⟨rd, hrd⟩ : ∃ r9, r9 = rdL (gA d le) n n 0 (gA d dt) 0 0 0 := ⟨_, rfl⟩
  rw [← hrd]
  refine enterI RX8 1 [some (.ref x), none] (by decide) rfl (rfl) rfl rfl (fun X hR => ?_)
  refine al0 (pc := 0) dX8_picture_0 ?_
  refine gf_X8_26 (pc := 1) hx.o8 hx.r3 dX8_picture_1 ?_
  refine cl_X8_75 (pc := 4) (c_X7_read hx.tp hn hn2 hx.ld) hx.tp.1 (by decide) ⟨Nat.zero_le _, Nat.zero_le _⟩ (Nat.le_of_ble_eq_true rfl) dX8_picture_4 ?_
  rw [← hrd]
  refine is1 (pc := 7) dX8_picture_7 rfl ?_
  refine al0 (pc := 8) dX8_picture_8 ?_
  refine gf_X8_26 (pc := 9) hx.o8 hx.r3 dX8_picture_9 ?_
  refine g_iconst (pc := 12) dX8_picture_12 kc0 ?_
  refine pf_X8_70 (pc := 13) hx.tp.1 dX8_picture_13 ?_
  rw [← piE]
  refine il1 (pc := 16) dX8_picture_16 ?_
  refine g_ifge 22 (pc := 17) dX8_picture_17 (by decide) (fun c17 => ?_) (fun c17 => ?_)
  · skip
    refine al0 (pc := 22) dX8_picture_22 ?_
    refine gf_X8_26 (pc := 23) hx.o8 hx.r3 dX8_picture_23 ?_
    refine gf_X8_79 (pc := 26) hx.tp.1 dX8_picture_26 ?_
    rw [gI_piE]
    refine g_bipush (pc := 29) dX8_picture_29 kb110 ?_
    refine g_icmpeq 54 (pc := 31) dX8_picture_31 (by decide) (fun c31 => ?_) (fun c31 => ?_)
    · skip
      have e1 : piE d tp dt rd = piO (piE d tp dt rd) (oA Z sc) dt (rd.2.2.1 = 110) := (piO_t _ _ _ _ c31).symm
      rw [e1]
      refine al0 (pc := 54) dX8_picture_54 ?_
      refine gf_X8_26 (pc := 55) hx.o8 hx.r3 dX8_picture_55 ?_
      refine gf_X8_79 (pc := 58) hx.tp.1 dX8_picture_58 ?_
      rw [gI_piO, gI_piE]
      refine g_bipush (pc := 61) dX8_picture_61 kb111 ?_
      refine g_icmpeq 86 (pc := 63) dX8_picture_63 (by decide) (fun c63 => ?_) (fun c63 => ?_)
      · skip
        refine al0 (pc := 86) dX8_picture_86 ?_
        refine gf_X8_10 (pc := 87) hx.o8 hx.r0 dX8_picture_87 ?_
        refine g_iconst (pc := 90) dX8_picture_90 kc0 ?_
        refine pf_X8_102 (pc := 91) hx.st.1 dX8_picture_91 ?_
        refine il1 (pc := 94) dX8_picture_94 ?_
        exact retI (pc := 95) hR dX8_picture_95 (rfl) (by rw [piD, if_neg (Int32.not_lt.mpr c17)]; congr 1; exact (piO_t _ _ _ _ c63).symm)
      · skip
        refine al0 (pc := 66) dX8_picture_66 ?_
        refine gf_X8_10 (pc := 67) hx.o8 hx.r0 dX8_picture_67 ?_
        refine gf_X8_82 (pc := 70) hx.st.1 hx.st.2.1 dX8_picture_70 ?_
        refine gf_X8_99 (pc := 73) hs.1 hs.2.2.1 dX8_picture_73 ?_
        refine al0 (pc := 76) dX8_picture_76 ?_
        refine gf_X8_26 (pc := 77) hx.o8 hx.r3 dX8_picture_77 ?_
        refine gf_X8_89 (pc := 80) hx.tp.1 hx.tp.2.2.1 dX8_picture_80 ?_
        refine cl_X8_93 (pc := 83) (c_X2_become hs.2.2.2.2 hx.tp.2.2.2.2) hs.2.2.2.2.1 (by decide) ⟨Nat.zero_le _, Nat.zero_le _⟩ (Nat.le_of_ble_eq_true rfl) dX8_picture_83 ?_
        refine al0 (pc := 86) dX8_picture_86 ?_
        refine gf_X8_10 (pc := 87) hx.o8 hx.r0 dX8_picture_87 ?_
        refine g_iconst (pc := 90) dX8_picture_90 kc0 ?_
        refine pf_X8_102 (pc := 91) hx.st.1 dX8_picture_91 ?_
        refine il1 (pc := 94) dX8_picture_94 ?_
        exact retI (pc := 95) hR dX8_picture_95 (rfl) (by rw [piD, if_neg (Int32.not_lt.mpr c17)]; congr 1; exact (piO_f _ _ _ _ c63).symm)
    · skip
      refine al0 (pc := 34) dX8_picture_34 ?_
      refine gf_X8_10 (pc := 35) hx.o8 hx.r0 dX8_picture_35 ?_
      refine gf_X8_82 (pc := 38) hx.st.1 hx.st.2.1 dX8_picture_38 ?_
      refine gf_X8_85 (pc := 41) hs.1 hs.2.1 dX8_picture_41 ?_
      refine al0 (pc := 44) dX8_picture_44 ?_
      refine gf_X8_26 (pc := 45) hx.o8 hx.r3 dX8_picture_45 ?_
      refine gf_X8_89 (pc := 48) hx.tp.1 hx.tp.2.2.1 dX8_picture_48 ?_
      refine cl_X8_93 (pc := 51) (c_X2_become hs.2.2.2.1 hx.tp.2.2.2.2) hs.2.2.2.1.1 (by decide) ⟨Nat.zero_le _, Nat.zero_le _⟩ (Nat.le_of_ble_eq_true rfl) dX8_picture_51 ?_
      have e1 : tA (piE d tp dt rd) (oA Z sc) (va_cpy (gA (piE d tp dt rd) dt) (gA (piE d tp dt rd) (oA Z sc)) 0 0 96) = piO (piE d tp dt rd) (oA Z sc) dt (rd.2.2.1 = 110) := (piO_f _ _ _ _ c31).symm
      rw [e1]
      refine al0 (pc := 54) dX8_picture_54 ?_
      refine gf_X8_26 (pc := 55) hx.o8 hx.r3 dX8_picture_55 ?_
      refine gf_X8_79 (pc := 58) hx.tp.1 dX8_picture_58 ?_
      rw [gI_piO, gI_piE]
      refine g_bipush (pc := 61) dX8_picture_61 kb111 ?_
      refine g_icmpeq 86 (pc := 63) dX8_picture_63 (by decide) (fun c63 => ?_) (fun c63 => ?_)
      · skip
        refine al0 (pc := 86) dX8_picture_86 ?_
        refine gf_X8_10 (pc := 87) hx.o8 hx.r0 dX8_picture_87 ?_
        refine g_iconst (pc := 90) dX8_picture_90 kc0 ?_
        refine pf_X8_102 (pc := 91) hx.st.1 dX8_picture_91 ?_
        refine il1 (pc := 94) dX8_picture_94 ?_
        exact retI (pc := 95) hR dX8_picture_95 (rfl) (by rw [piD, if_neg (Int32.not_lt.mpr c17)]; congr 1; exact (piO_t _ _ _ _ c63).symm)
      · skip
        refine al0 (pc := 66) dX8_picture_66 ?_
        refine gf_X8_10 (pc := 67) hx.o8 hx.r0 dX8_picture_67 ?_
        refine gf_X8_82 (pc := 70) hx.st.1 hx.st.2.1 dX8_picture_70 ?_
        refine gf_X8_99 (pc := 73) hs.1 hs.2.2.1 dX8_picture_73 ?_
        refine al0 (pc := 76) dX8_picture_76 ?_
        refine gf_X8_26 (pc := 77) hx.o8 hx.r3 dX8_picture_77 ?_
        refine gf_X8_89 (pc := 80) hx.tp.1 hx.tp.2.2.1 dX8_picture_80 ?_
        refine cl_X8_93 (pc := 83) (c_X2_become hs.2.2.2.2 hx.tp.2.2.2.2) hs.2.2.2.2.1 (by decide) ⟨Nat.zero_le _, Nat.zero_le _⟩ (Nat.le_of_ble_eq_true rfl) dX8_picture_83 ?_
        refine al0 (pc := 86) dX8_picture_86 ?_
        refine gf_X8_10 (pc := 87) hx.o8 hx.r0 dX8_picture_87 ?_
        refine g_iconst (pc := 90) dX8_picture_90 kc0 ?_
        refine pf_X8_102 (pc := 91) hx.st.1 dX8_picture_91 ?_
        refine il1 (pc := 94) dX8_picture_94 ?_
        exact retI (pc := 95) hR dX8_picture_95 (rfl) (by rw [piD, if_neg (Int32.not_lt.mpr c17)]; congr 1; exact (piO_f _ _ _ _ c63).symm)
  · skip
    refine il1 (pc := 20) dX8_picture_20 ?_
    exact retI (pc := 21) hR dX8_picture_21 (rfl) (by rw [piD, if_pos (Int32.not_le.mp c17)])
theorem c_X8_dot {l : Launch} {G : mG} {Z : mZ} {d : mD} {x st kp tp sr ha fi sp sh sc pa kc kq le dt mo ne : Nat} {c r w : Int32} (hx : clS Z x st kp tp sr ha fi sp sh sc pa kc kq le dt mo ne) : CtI l G yX8_dot cX8_dot 6 .int 2 45 [.ref x, .int c, .int r, .int w] Z d (dotR (gA d (oA Z sc)) (gA d (nA Z sc)) c r w) d := by
  obtain ⟨p, q, hs⟩ := hx.scV
  obtain ⟨p2, q2, hs2⟩ := hx.spv
  refine enterI RX8 2 [some (.ref x), some (.int c), some (.int r), some (.int w), none, none] (by decide) rfl (rfl) rfl rfl (fun X hR => ?_)
  refine il1 (pc := 0) dX8_dot_0 ?_
  refine g_bipush (pc := 1) dX8_dot_1 kbm3 ?_
  refine g_bipush (pc := 3) dX8_dot_3 kb14 ?_
  refine cl_X8_105 (pc := 5) (c_X8_isWithin) (by decide) ⟨Nat.zero_le _, Nat.zero_le _⟩ (Nat.le_of_ble_eq_true rfl) dX8_dot_5 ?_
  refine g_ifeq 26 (pc := 8) dX8_dot_8 (by decide) (fun c8 => ?_) (fun c8 => ?_)
  · skip
    (try simp only [mB_eq0, Decidable.not_not] at c8)
    refine g_iconst (pc := 26) dX8_dot_26 kc0 ?_
    refine is4 (pc := 27) dX8_dot_27 rfl ?_
    refine il4 (pc := 29) dX8_dot_29 ?_
    refine g_ifeq 43 (pc := 31) dX8_dot_31 (by decide) (fun c31 => ?_) (fun c31 => absurd (by decide) c31)
    refine g_ldc (pc := 43) dX8_dot_43 wk_X8_65 ?_
    exact retI (pc := 45) hR dX8_dot_45 (by rw [dotR, if_neg]; intro h9; simp [h9] at *) (rfl)
  · skip
    (try simp only [mB_eq0, Decidable.not_not] at c8)
    refine il2 (pc := 11) dX8_dot_11 ?_
    refine g_bipush (pc := 12) dX8_dot_12 kbm3 ?_
    refine g_bipush (pc := 14) dX8_dot_14 kb10 ?_
    refine cl_X8_105 (pc := 16) (c_X8_isWithin) (by decide) ⟨Nat.zero_le _, Nat.zero_le _⟩ (Nat.le_of_ble_eq_true rfl) dX8_dot_16 ?_
    refine g_ifeq 26 (pc := 19) dX8_dot_19 (by decide) (fun c19 => ?_) (fun c19 => ?_)
    · skip
      (try simp only [mB_eq0, Decidable.not_not] at c19)
      refine g_iconst (pc := 26) dX8_dot_26 kc0 ?_
      refine is4 (pc := 27) dX8_dot_27 rfl ?_
      refine il4 (pc := 29) dX8_dot_29 ?_
      refine g_ifeq 43 (pc := 31) dX8_dot_31 (by decide) (fun c31 => ?_) (fun c31 => absurd (by decide) c31)
      refine g_ldc (pc := 43) dX8_dot_43 wk_X8_65 ?_
      exact retI (pc := 45) hR dX8_dot_45 (by rw [dotR, if_neg]; intro h9; simp [h9] at *) (rfl)
    · skip
      (try simp only [mB_eq0, Decidable.not_not] at c19)
      refine g_iconst (pc := 22) dX8_dot_22 kc1 ?_
      refine g_goto 27 (pc := 23) dX8_dot_23 (by decide) ?_
      refine is4 (pc := 27) dX8_dot_27 rfl ?_
      refine il4 (pc := 29) dX8_dot_29 ?_
      refine g_ifeq 43 (pc := 31) dX8_dot_31 (by decide) (fun c31 => absurd c31 (by decide)) (fun c31 => ?_)
      refine il3 (pc := 34) dX8_dot_34 ?_
      refine g_iconst (pc := 35) dX8_dot_35 kc0 ?_
      refine g_iconst (pc := 36) dX8_dot_36 kc1 ?_
      refine cl_X8_105 (pc := 37) (c_X8_isWithin) (by decide) ⟨Nat.zero_le _, Nat.zero_le _⟩ (Nat.le_of_ble_eq_true rfl) dX8_dot_37 ?_
      refine g_ifne 46 (pc := 40) dX8_dot_40 (by decide) (fun c40 => ?_) (fun c40 => ?_)
      · skip
        (try simp only [mB_eq0, Decidable.not_not] at c40)
        refine il3 (pc := 46) dX8_dot_46 ?_
        refine g_ifne 63 (pc := 47) dX8_dot_47 (by decide) (fun c47 => ?_) (fun c47 => ?_)
        · skip
          refine al0 (pc := 63) dX8_dot_63 ?_
          refine gf_X8_10 (pc := 64) hx.o8 hx.r0 dX8_dot_64 ?_
          refine gf_X8_82 (pc := 67) hx.st.1 hx.st.2.1 dX8_dot_67 ?_
          refine gf_X8_99 (pc := 70) hs.1 hs.2.2.1 dX8_dot_70 ?_
          refine as5 (pc := 73) dX8_dot_73 rfl ?_
          refine al5 (pc := 75) dX8_dot_75 ?_
          refine il1 (pc := 77) dX8_dot_77 ?_
          refine il2 (pc := 78) dX8_dot_78 ?_
          refine cl_X8_109 (pc := 79) (c_X2_at hs.2.2.2.2) hs.2.2.2.2.1 (by decide) ⟨Nat.zero_le _, Nat.zero_le _⟩ (Nat.le_of_ble_eq_true rfl) dX8_dot_79 ?_
          exact retI (pc := 82) hR dX8_dot_82 (by rw [dotR, if_pos ⟨⟨c8, c19⟩, c40⟩]; simp [c47]) (rfl)
        · skip
          refine al0 (pc := 50) dX8_dot_50 ?_
          refine gf_X8_10 (pc := 51) hx.o8 hx.r0 dX8_dot_51 ?_
          refine gf_X8_82 (pc := 54) hx.st.1 hx.st.2.1 dX8_dot_54 ?_
          refine gf_X8_85 (pc := 57) hs.1 hs.2.1 dX8_dot_57 ?_
          refine g_goto 73 (pc := 60) dX8_dot_60 (by decide) ?_
          refine as5 (pc := 73) dX8_dot_73 rfl ?_
          refine al5 (pc := 75) dX8_dot_75 ?_
          refine il1 (pc := 77) dX8_dot_77 ?_
          refine il2 (pc := 78) dX8_dot_78 ?_
          refine cl_X8_109 (pc := 79) (c_X2_at hs.2.2.2.1) hs.2.2.2.1.1 (by decide) ⟨Nat.zero_le _, Nat.zero_le _⟩ (Nat.le_of_ble_eq_true rfl) dX8_dot_79 ?_
          exact retI (pc := 82) hR dX8_dot_82 (by rw [dotR, if_pos ⟨⟨c8, c19⟩, c40⟩]; simp [c47]) (rfl)
      · skip
        (try simp only [mB_eq0, Decidable.not_not] at c40)
        refine g_ldc (pc := 43) dX8_dot_43 wk_X8_65 ?_
        exact retI (pc := 45) hR dX8_dot_45 (by rw [dotR, if_neg]; intro h9; simp [h9] at *) (rfl)
theorem c_X8_paint {l : Launch} {G : mG} {Z : mZ} {d : mD} {x st kp tp sr ha fi sp sh sc pa kc kq le dt mo ne : Nat} {k : Nat} {c r v : Int32} (hx : clS Z x st kp tp sr ha fi sp sh sc pa kc kq le dt mo ne) (hp : pst Z d pa) (hk : gI d 194 st = nI k) (hk8 : k ≤ 8) : CtI l G yX8_paint cX8_paint 5 .int 4 122 [.ref x, .int c, .int r, .int v] Z d (paiR (gA d (nA Z sc)) c r v) (paiD Z d st sc pa k c r v) := by
  obtain ⟨p, q, hs⟩ := hx.scV
  obtain ⟨p2, q2, hs2⟩ := hx.spv
  refine enterI RX8 1 [some (.ref x), some (.int c), some (.int r), some (.int v), none] (by decide) rfl (rfl) rfl rfl (fun X hR => ?_)
  refine il1 (pc := 0) dX8_paint_0 ?_
  refine il2 (pc := 1) dX8_paint_1 ?_
  refine cl_X8_143 (pc := 2) (c_X8_isInPicture) (by decide) ⟨Nat.zero_le _, Nat.zero_le _⟩ (Nat.le_of_ble_eq_true rfl) dX8_paint_2 ?_
  refine g_ifeq 18 (pc := 5) dX8_paint_5 (by decide) (fun c5 => ?_) (fun c5 => ?_)
  · skip
    (try simp only [mB_eq0, Decidable.not_not] at c5)
    refine g_ldc (pc := 18) dX8_paint_18 wk_X8_65 ?_
    exact retI (pc := 20) hR dX8_paint_20 (by rw [paiR, if_neg]; intro h9; simp [h9] at *) (by rw [paiD, if_neg]; intro h9; simp [h9] at *)
  · skip
    (try simp only [mB_eq0, Decidable.not_not] at c5)
    refine il3 (pc := 8) dX8_paint_8 ?_
    refine g_iconst (pc := 9) dX8_paint_9 kc0 ?_
    refine g_bipush (pc := 10) dX8_paint_10 kb9 ?_
    refine cl_X8_105 (pc := 12) (c_X8_isWithin) (by decide) ⟨Nat.zero_le _, Nat.zero_le _⟩ (Nat.le_of_ble_eq_true rfl) dX8_paint_12 ?_
    refine g_ifne 21 (pc := 15) dX8_paint_15 (by decide) (fun c15 => ?_) (fun c15 => ?_)
    · skip
      (try simp only [mB_eq0, Decidable.not_not] at c15)
      refine al0 (pc := 21) dX8_paint_21 ?_
      refine gf_X8_10 (pc := 22) hx.o8 hx.r0 dX8_paint_22 ?_
      refine gf_X8_82 (pc := 25) hx.st.1 hx.st.2.1 dX8_paint_25 ?_
      refine gf_X8_99 (pc := 28) hs.1 hs.2.2.1 dX8_paint_28 ?_
      refine il1 (pc := 31) dX8_paint_31 ?_
      refine il2 (pc := 32) dX8_paint_32 ?_
      refine cl_X8_109 (pc := 33) (c_X2_at hs.2.2.2.2) hs.2.2.2.2.1 (by decide) ⟨Nat.zero_le _, Nat.zero_le _⟩ (Nat.le_of_ble_eq_true rfl) dX8_paint_33 ?_
      refine is4 (pc := 36) dX8_paint_36 rfl ?_
      refine il4 (pc := 38) dX8_paint_38 ?_
      refine il3 (pc := 40) dX8_paint_40 ?_
      refine g_icmpne 47 (pc := 41) dX8_paint_41 (by decide) (fun c41 => ?_) (fun c41 => ?_)
      · skip
        refine al0 (pc := 47) dX8_paint_47 ?_
        refine gf_X8_10 (pc := 48) hx.o8 hx.r0 dX8_paint_48 ?_
        refine cl_X8_148 (pc := 51) (c_X6_keep hx.st hp hk hk8) hx.st.1 (by decide) ⟨Nat.zero_le _, Nat.zero_le _⟩ (Nat.le_of_ble_eq_true rfl) dX8_paint_51 ?_
        refine al0 (pc := 54) dX8_paint_54 ?_
        refine gf_X8_10 (pc := 55) hx.o8 hx.r0 dX8_paint_55 ?_
        refine gf_X8_82 (pc := 58) hx.st.1 hx.st.2.1 dX8_paint_58 ?_
        refine gf_X8_99 (pc := 61) hs.1 hs.2.2.1 dX8_paint_61 ?_
        refine gf_X8_151 (pc := 64) hs.2.2.2.2.1 hs.2.2.2.2.2.1 dX8_paint_64 ?_
        refine il2 (pc := 67) dX8_paint_67 ?_
        refine g_bipush (pc := 68) dX8_paint_68 kb12 ?_
        refine g_imul (pc := 70) dX8_paint_70 ?_
        refine il1 (pc := 71) dX8_paint_71 ?_
        refine g_iadd (pc := 72) dX8_paint_72 ?_
        refine il3 (pc := 73) dX8_paint_73 ?_
        have h1 := wth_nI 11 (by decide) c5.1
        have h2 := wth_nI 7 (by decide) c5.2
        refine g_iast (pc := 74) (12 * tN r + tN c) hs.2.2.2.2.2.2 (by omega) (by rw [show r * 12 + c = nI (tN r) * nI 12 + nI (tN c) by rw [← h1.1, ← h2.1]; rfl, pk_mul, nI_add, Nat.mul_comm]) (by decide) dX8_paint_74 ?_
        refine il4 (pc := 75) dX8_paint_75 ?_
        exact retI (pc := 77) hR dX8_paint_77 (by rw [paiR, if_pos ⟨c5, c15⟩, if_neg c41]) (by rw [paiD, if_pos ⟨⟨c5, c15⟩, c41⟩])
      · skip
        refine g_ldc (pc := 44) dX8_paint_44 wk_X8_147 ?_
        exact retI (pc := 46) hR dX8_paint_46 (by rw [paiR, if_pos ⟨c5, c15⟩, if_pos c41]) (by rw [paiD, if_neg]; intro h9; exact h9.2 c41)
    · skip
      (try simp only [mB_eq0, Decidable.not_not] at c15)
      refine g_ldc (pc := 18) dX8_paint_18 wk_X8_65 ?_
      exact retI (pc := 20) hR dX8_paint_20 (by rw [paiR, if_neg]; intro h9; simp [h9] at *) (by rw [paiD, if_neg]; intro h9; simp [h9] at *)
theorem c_X8_shift {l : Launch} {G : mG} {Z : mZ} {d : mD} {x st kp tp sr ha fi sp sh sc pa kc kq le dt mo ne : Nat} {k : Nat} {v w : Int32} (hx : clS Z x st kp tp sr ha fi sp sh sc pa kc kq le dt mo ne) (hp : pst Z d pa) (hk : gI d 194 st = nI k) (hk8 : k ≤ 8) : CtI l G yX8_shift cX8_shift 5 .int 4 122 [.ref x, .int v, .int w] Z d (shiR Z (shiD Z d st sc pa k sp v w) sc sp v w) (shiD Z d st sc pa k sp v w) := by
  obtain ⟨p, q, hs⟩ := hx.scV
  obtain ⟨p2, q2, hs2⟩ := hx.spv
  refine enterI RX8 2 [some (.ref x), some (.int v), some (.int w), none, none] (by decide) rfl (rfl) rfl rfl (fun X hR => ?_)
  refine il1 (pc := 0) dX8_shift_0 ?_
  refine g_bipush (pc := 1) dX8_shift_1 kbm3 ?_
  refine g_iconst (pc := 3) dX8_shift_3 kc3 ?_
  refine cl_X8_105 (pc := 4) (c_X8_isWithin) (by decide) ⟨Nat.zero_le _, Nat.zero_le _⟩ (Nat.le_of_ble_eq_true rfl) dX8_shift_4 ?_
  refine g_ifeq 20 (pc := 7) dX8_shift_7 (by decide) (fun c7 => ?_) (fun c7 => ?_)
  · skip
    (try simp only [mB_eq0, Decidable.not_not] at c7)
    refine g_ldc (pc := 20) dX8_shift_20 wk_X8_65 ?_
    exact retI (pc := 22) hR dX8_shift_22 (by rw [shiR, if_neg]; intro h9; simp [h9] at *) (by rw [shiD, if_neg]; intro h9; simp [h9] at *)
  · skip
    (try simp only [mB_eq0, Decidable.not_not] at c7)
    refine il2 (pc := 10) dX8_shift_10 ?_
    refine g_bipush (pc := 11) dX8_shift_11 kbm3 ?_
    refine g_iconst (pc := 13) dX8_shift_13 kc3 ?_
    refine cl_X8_105 (pc := 14) (c_X8_isWithin) (by decide) ⟨Nat.zero_le _, Nat.zero_le _⟩ (Nat.le_of_ble_eq_true rfl) dX8_shift_14 ?_
    refine g_ifne 23 (pc := 17) dX8_shift_17 (by decide) (fun c17 => ?_) (fun c17 => ?_)
    · skip
      (try simp only [mB_eq0, Decidable.not_not] at c17)
      refine al0 (pc := 23) dX8_shift_23 ?_
      refine gf_X8_10 (pc := 24) hx.o8 hx.r0 dX8_shift_24 ?_
      refine cl_X8_148 (pc := 27) (c_X6_keep hx.st hp hk hk8) hx.st.1 (by decide) ⟨Nat.zero_le _, Nat.zero_le _⟩ (Nat.le_of_ble_eq_true rfl) dX8_shift_27 ?_
      refine al0 (pc := 30) dX8_shift_30 ?_
      refine gf_X8_10 (pc := 31) hx.o8 hx.r0 dX8_shift_31 ?_
      refine gf_X8_82 (pc := 34) hx.st.1 hx.st.2.1 dX8_shift_34 ?_
      refine gf_X8_99 (pc := 37) hs.1 hs.2.2.1 dX8_shift_37 ?_
      refine as3 (pc := 40) dX8_shift_40 rfl ?_
      refine al0 (pc := 41) dX8_shift_41 ?_
      refine gf_X8_54 (pc := 42) hx.o8 hx.r7 dX8_shift_42 ?_
      refine gf_X8_99 (pc := 45) hs2.1 hs2.2.2.1 dX8_shift_45 ?_
      refine al3 (pc := 48) dX8_shift_48 ?_
      refine gf_X8_151 (pc := 49) hs.2.2.2.2.1 hs.2.2.2.2.2.1 dX8_shift_49 ?_
      refine cl_X8_93 (pc := 52) (c_X2_become hs2.2.2.2.2 hs.2.2.2.2.2.2) hs2.2.2.2.2.1 (by decide) ⟨Nat.zero_le _, Nat.zero_le _⟩ (Nat.le_of_ble_eq_true rfl) dX8_shift_52 ?_
      rw [← shE]
      refine g_iconst (pc := 55) dX8_shift_55 kc0 ?_
      refine is4 (pc := 56) dX8_shift_56 rfl ?_
      have L58 : ∀ (n i : Nat) (f : Nat → Int32), i + n = 96 → (shL (gA (shE Z (keD Z d st sc pa k) sc sp) (nA Z sp)) v w n i f = shL (gA (shE Z (keD Z d st sc pa k) sc sp) (nA Z sp)) v w 96 0 (gA (shE Z (keD Z d st sc pa k) sc sp) (nA Z sc))) → mGo l G (mRm 4 122) X RX8 cX8_shift 5 0 0 Z 58 [some (.ref x), some (.int v), some (.int w), some (.ref q), some (.int (nI i))] [] (tA (shE Z (keD Z d st sc pa k) sc sp) (nA Z sc) f) := by
        intro n; induction n with
        | zero =>
          intro i f hin58 hF
          refine il4 (pc := 58) dX8_shift_58 ?_
          refine g_bipush (pc := 60) dX8_shift_60 kb96 ?_
          refine g_icmpge 102 (pc := 62) dX8_shift_62 (by decide) (fun c62 => ?_) (fun c62 => absurd (nI_le (a := 96) (by omega) (by omega)) c62)
          have e9 : tA (shE Z (keD Z d st sc pa k) sc sp) (nA Z sc) f = shiD Z d st sc pa k sp v w := by rw [shiD, if_pos ⟨c7, c17⟩, shF, ← hF]; rfl
          rw [e9]
          refine al3 (pc := 102) dX8_shift_102 ?_
          refine al0 (pc := 103) dX8_shift_103 ?_
          refine gf_X8_54 (pc := 104) hx.o8 hx.r7 dX8_shift_104 ?_
          refine gf_X8_99 (pc := 107) hs2.1 hs2.2.2.1 dX8_shift_107 ?_
          refine cl_X8_152 (pc := 110) (c_X2_othersThan hs.2.2.2.2 hs2.2.2.2.2) hs.2.2.2.2.1 (by decide) ⟨Nat.zero_le _, Nat.zero_le _⟩ (Nat.le_of_ble_eq_true rfl) dX8_shift_110 ?_
          exact retI (pc := 113) hR dX8_shift_113 (by rw [shiR, if_pos ⟨c7, c17⟩]) (rfl)
        | succ n ih58 =>
          intro i f hin58 hF
          refine il4 (pc := 58) dX8_shift_58 ?_
          refine g_bipush (pc := 60) dX8_shift_60 kb96 ?_
          refine g_icmpge 102 (pc := 62) dX8_shift_62 (by decide) (fun c62 => absurd c62 (nI_ge (b := 96) (by omega) (by omega))) (fun c62 => ?_)
          refine al3 (pc := 65) dX8_shift_65 ?_
          refine gf_X8_151 (pc := 66) hs.2.2.2.2.1 hs.2.2.2.2.2.1 dX8_shift_66 ?_
          refine il4 (pc := 69) dX8_shift_69 ?_
          refine al0 (pc := 71) dX8_shift_71 ?_
          refine gf_X8_54 (pc := 72) hx.o8 hx.r7 dX8_shift_72 ?_
          refine gf_X8_99 (pc := 75) hs2.1 hs2.2.2.1 dX8_shift_75 ?_
          refine il4 (pc := 78) dX8_shift_78 ?_
          refine g_bipush (pc := 80) dX8_shift_80 kb12 ?_
          refine g_irem (pc := 82) dX8_shift_82 (by decide) ?_
          refine il1 (pc := 83) dX8_shift_83 ?_
          refine g_iadd (pc := 84) dX8_shift_84 ?_
          refine il4 (pc := 85) dX8_shift_85 ?_
          refine g_bipush (pc := 87) dX8_shift_87 kb12 ?_
          refine g_idiv (pc := 89) dX8_shift_89 (by decide) ?_
          refine il2 (pc := 90) dX8_shift_90 ?_
          refine g_iadd (pc := 91) dX8_shift_91 ?_
          refine cl_X8_109 (pc := 92) (c_X2_at hs2.2.2.2.2) hs2.2.2.2.2.1 (by decide) ⟨Nat.zero_le _, Nat.zero_le _⟩ (Nat.le_of_ble_eq_true rfl) dX8_shift_92 ?_
          rw [gA_tA, if_neg hx.bsp]
          refine g_iast (pc := 95) i hs.2.2.2.2.2.2 (by omega) (rfl) (by decide) dX8_shift_95 ?_
          rw [gA_tA, if_pos rfl, tA_tA]
          refine ic4 (pc := 96) dX8_shift_96 kc1 rfl ?_
          refine g_goto 58 (pc := 99) dX8_shift_99 (by decide) ?_
          rw [nI_1]
          exact ih58 (i + 1) _ (by omega) hF
      have q9 := L58 96 0 _ (by omega) rfl
      rw [tA_self] at q9
      exact q9
    · skip
      (try simp only [mB_eq0, Decidable.not_not] at c17)
      refine g_ldc (pc := 20) dX8_shift_20 wk_X8_65 ?_
      exact retI (pc := 22) hR dX8_shift_22 (by rw [shiR, if_neg]; intro h9; simp [h9] at *) (by rw [shiD, if_neg]; intro h9; simp [h9] at *)
theorem c_X8_take {l : Launch} {G : mG} {Z : mZ} {d : mD} {x st kp tp sr ha fi sp sh sc pa kc kq le dt mo ne : Nat} {k : Nat} (hx : clS Z x st kp tp sr ha fi sp sh sc pa kc kq le dt mo ne) (hp : pst Z d pa) (hk : gI d 194 st = nI k) (hk8 : k ≤ 8) : CtI l G yX8_take cX8_take 3 .int 4 122 [.ref x] Z d (cntL (fun i => decide (¬ gA (keD Z d st sc pa k) (oA Z sc) i = gA (keD Z d st sc pa k) (nA Z sc) i)) 96 0 0) (takD Z (keD Z d st sc pa k) sc) := by
  obtain ⟨p, q, hs⟩ := hx.scV
  obtain ⟨p2, q2, hs2⟩ := hx.spv
  refine enterI RX8 2 [some (.ref x), none, none] (by decide) rfl (rfl) rfl rfl (fun X hR => ?_)
  refine al0 (pc := 0) dX8_take_0 ?_
  refine gf_X8_10 (pc := 1) hx.o8 hx.r0 dX8_take_1 ?_
  refine cl_X8_148 (pc := 4) (c_X6_keep hx.st hp hk hk8) hx.st.1 (by decide) ⟨Nat.zero_le _, Nat.zero_le _⟩ (Nat.le_of_ble_eq_true rfl) dX8_take_4 ?_
  refine al0 (pc := 7) dX8_take_7 ?_
  refine gf_X8_10 (pc := 8) hx.o8 hx.r0 dX8_take_8 ?_
  refine gf_X8_82 (pc := 11) hx.st.1 hx.st.2.1 dX8_take_11 ?_
  refine as1 (pc := 14) dX8_take_14 rfl ?_
  refine al1 (pc := 15) dX8_take_15 ?_
  refine gf_X8_85 (pc := 16) hs.1 hs.2.1 dX8_take_16 ?_
  refine al1 (pc := 19) dX8_take_19 ?_
  refine gf_X8_99 (pc := 20) hs.1 hs.2.2.1 dX8_take_20 ?_
  refine cl_X8_152 (pc := 23) (c_X2_othersThan hs.2.2.2.1 hs.2.2.2.2) hs.2.2.2.1.1 (by decide) ⟨Nat.zero_le _, Nat.zero_le _⟩ (Nat.le_of_ble_eq_true rfl) dX8_take_23 ?_
  refine is2 (pc := 26) dX8_take_26 rfl ?_
  refine al1 (pc := 27) dX8_take_27 ?_
  refine gf_X8_85 (pc := 28) hs.1 hs.2.1 dX8_take_28 ?_
  refine al1 (pc := 31) dX8_take_31 ?_
  refine gf_X8_99 (pc := 32) hs.1 hs.2.2.1 dX8_take_32 ?_
  refine gf_X8_151 (pc := 35) hs.2.2.2.2.1 hs.2.2.2.2.2.1 dX8_take_35 ?_
  refine cl_X8_93 (pc := 38) (c_X2_become hs.2.2.2.1 hs.2.2.2.2.2.2) hs.2.2.2.1.1 (by decide) ⟨Nat.zero_le _, Nat.zero_le _⟩ (Nat.le_of_ble_eq_true rfl) dX8_take_38 ?_
  refine il2 (pc := 41) dX8_take_41 ?_
  exact retI (pc := 42) hR dX8_take_42 (rfl) (rfl)
theorem c_X8_like {l : Launch} {G : mG} {Z : mZ} {d : mD} {x st kp tp sr ha fi sp sh sc pa kc kq le dt mo ne : Nat} {k : Nat} {v : Int32} (hx : clS Z x st kp tp sr ha fi sp sh sc pa kc kq le dt mo ne) (hp : pst Z d pa) (hk : gI d 194 st = nI k) (hk8 : k ≤ 8) : CtI l G yX8_like cX8_like 3 .int 4 122 [.ref x, .int v] Z d (likR (gI d 98 sc) v) (likD Z d st sc pa k v) := by
  obtain ⟨p, q, hs⟩ := hx.scV
  obtain ⟨p2, q2, hs2⟩ := hx.spv
  refine enterI RX8 1 [some (.ref x), some (.int v), none] (by decide) rfl (rfl) rfl rfl (fun X hR => ?_)
  refine il1 (pc := 0) dX8_like_0 ?_
  refine g_iconst (pc := 1) dX8_like_1 kc0 ?_
  refine g_iconst (pc := 2) dX8_like_2 kc4 ?_
  refine cl_X8_105 (pc := 3) (c_X8_isWithin) (by decide) ⟨Nat.zero_le _, Nat.zero_le _⟩ (Nat.le_of_ble_eq_true rfl) dX8_like_3 ?_
  refine g_ifne 12 (pc := 6) dX8_like_6 (by decide) (fun c6 => ?_) (fun c6 => ?_)
  · skip
    (try simp only [mB_eq0, Decidable.not_not] at c6)
    refine al0 (pc := 12) dX8_like_12 ?_
    refine gf_X8_10 (pc := 13) hx.o8 hx.r0 dX8_like_13 ?_
    refine gf_X8_82 (pc := 16) hx.st.1 hx.st.2.1 dX8_like_16 ?_
    refine gf_X8_113 (pc := 19) hs.1 dX8_like_19 ?_
    refine is2 (pc := 22) dX8_like_22 rfl ?_
    refine il2 (pc := 23) dX8_like_23 ?_
    refine il1 (pc := 24) dX8_like_24 ?_
    refine g_icmpne 31 (pc := 25) dX8_like_25 (by decide) (fun c25 => ?_) (fun c25 => ?_)
    · skip
      refine al0 (pc := 31) dX8_like_31 ?_
      refine gf_X8_10 (pc := 32) hx.o8 hx.r0 dX8_like_32 ?_
      refine cl_X8_148 (pc := 35) (c_X6_keep hx.st hp hk hk8) hx.st.1 (by decide) ⟨Nat.zero_le _, Nat.zero_le _⟩ (Nat.le_of_ble_eq_true rfl) dX8_like_35 ?_
      refine al0 (pc := 38) dX8_like_38 ?_
      refine gf_X8_10 (pc := 39) hx.o8 hx.r0 dX8_like_39 ?_
      refine gf_X8_82 (pc := 42) hx.st.1 hx.st.2.1 dX8_like_42 ?_
      refine il1 (pc := 45) dX8_like_45 ?_
      refine pf_X8_113 (pc := 46) hs.1 dX8_like_46 ?_
      refine il2 (pc := 49) dX8_like_49 ?_
      exact retI (pc := 50) hR dX8_like_50 (by rw [likR, if_pos c6, if_neg c25]) (by rw [likD, if_pos ⟨c6, c25⟩])
    · skip
      refine g_ldc (pc := 28) dX8_like_28 wk_X8_147 ?_
      exact retI (pc := 30) hR dX8_like_30 (by rw [likR, if_pos c6, if_pos c25]) (by rw [likD, if_neg]; intro h9; exact h9.2 c25)
  · skip
    (try simp only [mB_eq0, Decidable.not_not] at c6)
    refine g_ldc (pc := 9) dX8_like_9 wk_X8_65 ?_
    exact retI (pc := 11) hR dX8_like_11 (by rw [likR, if_neg c6]) (by rw [likD, if_neg]; intro h9; exact c6 h9.1)
theorem c_X8_noise {l : Launch} {G : mG} {Z : mZ} {d : mD} {x st kp tp sr ha fi sp sh sc pa kc kq le dt mo ne : Nat} {k : Nat} {v : Int32} (hx : clS Z x st kp tp sr ha fi sp sh sc pa kc kq le dt mo ne) (hp : pst Z d pa) (hk : gI d 194 st = nI k) (hk8 : k ≤ 8) : CtI l G yX8_noise cX8_noise 3 .int 6 151 [.ref x, .int v] Z d (if wthn v 1 40 then lacI Z (noL Z st sc pa (tN v) d k) sc mo sr else -1000001) (if wthn v 1 40 then fiD (noL Z st sc pa (tN v) d k) sr mo (fiT Z (noL Z st sc pa (tN v) d k) sc mo sr) else d) := by
  obtain ⟨p, q, hs⟩ := hx.scV
  obtain ⟨p2, q2, hs2⟩ := hx.spv
  refine enterI RX8 1 [some (.ref x), some (.int v), none] (by decide) rfl (rfl) rfl rfl (fun X hR => ?_)
  refine il1 (pc := 0) dX8_noise_0 ?_
  refine g_iconst (pc := 1) dX8_noise_1 kc1 ?_
  refine g_bipush (pc := 2) dX8_noise_2 kb40 ?_
  refine cl_X8_105 (pc := 4) (c_X8_isWithin) (by decide) ⟨Nat.zero_le _, Nat.zero_le _⟩ (Nat.le_of_ble_eq_true rfl) dX8_noise_4 ?_
  refine g_ifne 13 (pc := 7) dX8_noise_7 (by decide) (fun c7 => ?_) (fun c7 => ?_)
  · skip
    (try simp only [mB_eq0, Decidable.not_not] at c7)
    have hv9 : v = nI (tN v) ∧ tN v ≤ 40 := wth_nI 40 (by decide) ⟨Int32.le_trans (by decide) c7.1, c7.2⟩
    refine g_iconst (pc := 13) dX8_noise_13 kc0 ?_
    refine is2 (pc := 14) dX8_noise_14 rfl ?_
    have L15 : ∀ (n i : Nat) (e : mD) (k2 : Nat), i + n = (tN v) → (pst Z e pa) → (gI e 194 st = nI k2) → (k2 ≤ 8) → (noL Z st sc pa n e k2 = noL Z st sc pa (tN v) d k) → mGo l G (mRm 6 151) X RX8 cX8_noise 3 0 0 Z 15 [some (.ref x), some (.int v), some (.int (nI i))] [] e := by
      intro n; induction n with
      | zero =>
        intro i e k2 hin15 hp2 hk2 hk3 hF
        have e9 : e = noL Z st sc pa (tN v) d k := hF
        subst e9
        refine il2 (pc := 15) dX8_noise_15 ?_
        refine il1 (pc := 16) dX8_noise_16 ?_
        refine g_icmpge 43 (pc := 17) dX8_noise_17 (by decide) (fun c17 => ?_) (fun c17 => absurd (by rw [hv9.1]; exact nI_le (by omega) (by omega)) c17)
        refine al0 (pc := 43) dX8_noise_43 ?_
        refine gf_X8_47 (pc := 44) hx.o8 hx.r6 dX8_noise_44 ?_
        refine al0 (pc := 47) dX8_noise_47 ?_
        refine gf_X8_10 (pc := 48) hx.o8 hx.r0 dX8_noise_48 ?_
        refine gf_X8_82 (pc := 51) hx.st.1 hx.st.2.1 dX8_noise_51 ?_
        refine al0 (pc := 54) dX8_noise_54 ?_
        refine gf_X8_33 (pc := 55) hx.o8 hx.r4 dX8_noise_55 ?_
        refine cl_X8_119 (pc := 58) (c_X0_fill hx.fi hx.sr hs hx.ama hx.bma) hx.fi.1 (by decide) ⟨Nat.zero_le _, Nat.zero_le _⟩ (Nat.le_of_ble_eq_true rfl) dX8_noise_58 ?_
        rw [show fiL _ _ _ 6 0 _ _ = fiT Z (noL Z st sc pa (tN v) d k) sc mo sr from rfl]
        refine al0 (pc := 61) dX8_noise_61 ?_
        refine gf_X8_47 (pc := 62) hx.o8 hx.r6 dX8_noise_62 ?_
        refine al0 (pc := 65) dX8_noise_65 ?_
        refine gf_X8_10 (pc := 66) hx.o8 hx.r0 dX8_noise_66 ?_
        refine gf_X8_82 (pc := 69) hx.st.1 hx.st.2.1 dX8_noise_69 ?_
        refine cl_X8_126 (pc := 72) (c_X0_lacks hx.fi hs) hx.fi.1 (by decide) ⟨Nat.zero_le _, Nat.zero_le _⟩ (Nat.le_of_ble_eq_true rfl) dX8_noise_72 ?_
        exact retI (pc := 75) hR dX8_noise_75 (by rw [if_pos c7]; exact lac_fi hx.ama hx.bma) (by rw [if_pos c7])
      | succ n ih15 =>
        intro i e k2 hin15 hp2 hk2 hk3 hF
        refine il2 (pc := 15) dX8_noise_15 ?_
        refine il1 (pc := 16) dX8_noise_16 ?_
        refine g_icmpge 43 (pc := 17) dX8_noise_17 (by decide) (fun c17 => absurd c17 (by rw [hv9.1]; exact nI_ge (by omega) (by omega))) (fun c17 => ?_)
        refine al0 (pc := 20) dX8_noise_20 ?_
        refine gf_X8_10 (pc := 21) hx.o8 hx.r0 dX8_noise_21 ?_
        refine cl_X8_148 (pc := 24) (c_X6_keep hx.st hp2 hk2 hk3) hx.st.1 (by decide) ⟨Nat.zero_le _, Nat.zero_le _⟩ (Nat.le_of_ble_eq_true rfl) dX8_noise_24 ?_
        refine al0 (pc := 27) dX8_noise_27 ?_
        refine gf_X8_10 (pc := 28) hx.o8 hx.r0 dX8_noise_28 ?_
        refine gf_X8_82 (pc := 31) hx.st.1 hx.st.2.1 dX8_noise_31 ?_
        refine cl_X8_156 (pc := 34) (c_X3_turn hs) hs.1 (by decide) ⟨Nat.zero_le _, Nat.zero_le _⟩ (Nat.le_of_ble_eq_true rfl) dX8_noise_34 ?_
        refine ic2 (pc := 37) dX8_noise_37 kc1 rfl ?_
        refine g_goto 15 (pc := 40) dX8_noise_40 (by decide) ?_
        rw [nI_1]
        exact ih15 (i + 1) _ (nk k2) (by omega) (pst_ke hp2) (by show gI (tA (sI (keD Z e st sc pa k2) 99 sc _) _ _) 194 st = _; rw [gI_tA, gI_ne (by decide), keD_194]) (nk_le hk3) hF
    exact L15 (tN v) 0 d k (by omega) hp hk hk8 rfl
  · skip
    (try simp only [mB_eq0, Decidable.not_not] at c7)
    refine g_ldc (pc := 10) dX8_noise_10 wk_X8_65 ?_
    exact retI (pc := 12) hR dX8_noise_12 (by rw [if_neg c7]) (by rw [if_neg c7])
