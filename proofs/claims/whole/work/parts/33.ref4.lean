theorem tA_sIc (d : mD) (f a : Nat) (v : Int32) (b : Nat) (g : Nat → Int32) : tA (sI d f a v) b g = sI (tA d b g) f a v := rfl
theorem tA_selfE {d : mD} {a : Nat} {f : Nat → Int32} (h : gA d a = f) : tA d a f = d := by subst h; exact tA_self _ _
/-- h laid over g from off on, its first i -/
def cpF (g h : Nat → Int32) (off i : Nat) : Nat → Int32 := fun k => if off ≤ k ∧ k < off + i then h (k - off) else g k
theorem cpF_0 (g h : Nat → Int32) (off : Nat) : cpF g h off 0 = g := by funext k; unfold cpF; rw [if_neg (by omega)]
theorem cpF_s (g h : Nat → Int32) (off i : Nat) : upd (cpF g h off i) (off + i) (h i) = cpF g h off (i + 1) := by
  funext k
  unfold upd cpF
  by_cases h1 : k = off + i
  · subst h1; rw [if_pos rfl, if_pos (by omega), Nat.add_sub_cancel_left]
  · rw [if_neg h1]
    by_cases h2 : off ≤ k ∧ k < off + i
    · rw [if_pos h2, if_pos (by omega)]
    · rw [if_neg h2, if_neg (by omega)]
theorem cpF_s0 (g h : Nat → Int32) (i : Nat) : upd (cpF g h 0 i) i (h i) = cpF g h 0 (i + 1) := by
  have := cpF_s g h 0 i; rwa [Nat.zero_add] at this
/-- the rows ahead, one row down -/
def rnS (g : Nat → Int32) (i : Nat) : Nat → Int32 := fun k => if k < i then g (k + 194) else g k
theorem rnS_0 (g : Nat → Int32) : rnS g 0 = g := by funext k; unfold rnS; rw [if_neg (by omega)]
theorem rnS_s (g : Nat → Int32) (i : Nat) : upd (rnS g i) i (rnS g i (194 + i)) = rnS g (i + 1) := by
  funext k
  unfold upd
  by_cases h1 : k = i
  · subst h1; rw [if_pos rfl]; unfold rnS; rw [if_neg (by omega), if_pos (by omega), Nat.add_comm]
  · rw [if_neg h1]; unfold rnS
    by_cases h2 : k < i
    · rw [if_pos h2, if_pos (by omega)]
    · rw [if_neg h2, if_neg (by omega)]
def ntN (u : Nat) : Nat := if u = 8 then 7 else u
def ntG (g : Nat → Int32) (u : Nat) : Nat → Int32 := if u = 8 then rnS g 1358 else g
def ntF (g w : Nat → Int32) (u : Nat) : Nat → Int32 := cpF (ntG g u) w (194 * ntN u) 194
/-- what notes leaves -/
def ntD (d : mD) (m nw ah u : Nat) : mD := sI (tA d ah (ntF (gA d ah) (gA d nw) u)) 299 m (nI (ntN u + 1))
theorem gA_nt (d : mD) (m nw ah u : Nat) {b : Nat} (h : b ≠ ah) : gA (ntD d m nw ah u) b = gA d b := by
  show gA (tA d ah _) b = _
  rw [gA_tA, if_neg h]
theorem gI_nt (d : mD) (m nw ah u : Nat) {f b : Nat} (h : f ≠ 299) : gI (ntD d m nw ah u) f b = gI d f b := by
  unfold ntD
  rw [gI_ne h]; rfl
theorem gI_ntu (d : mD) (m nw ah u : Nat) : gI (ntD d m nw ah u) 299 m = nI (ntN u + 1) := gI_eq _ _ _ _
theorem ntN_le {u : Nat} (h : u ≤ 8) : ntN u + 1 ≤ 8 := by unfold ntN; split <;> omega
theorem nI_194 (j : Nat) : nI (194 + j) - 194 = nI j := by
  rw [show (194 : Int32) = nI 194 from rfl, ← nI_add]
  show (nI 194 + nI j) - nI 194 = nI j
  rw [Int32.add_comm, Int32.add_sub_cancel]
theorem cpF_at (g h : Nat → Int32) (off i k : Nat) (hk : off + i ≤ k) : cpF g h off i k = g k := by unfold cpF; rw [if_neg (by omega)]
theorem cpF_in (g h : Nat → Int32) (off i k : Nat) (hk : k < i) : cpF g h off i (off + k) = h k := by unfold cpF; rw [if_pos (by omega), Nat.add_sub_cancel_left]
theorem cpF_in0 (g h : Nat → Int32) (i k : Nat) (hk : k < i) : cpF g h 0 i k = h k := by unfold cpF; rw [if_pos (by omega), Nat.sub_zero]
theorem pix_in (f : Nat → Int32) {c r : Int32} (h1 : wthn c 0 11) (h2 : wthn r 0 7) : pix f c r = f (12 * tN r + tN c) := by
  have e1 := wth_nI 11 (by decide) h1
  have e2 := wth_nI 7 (by decide) h2
  rw [e1.1, e2.1, pixN f e1.2 e2.2, ← e1.1, ← e2.1]
def rpaD (d : mD) (m nw ah u : Nat) (c r v : Int32) : mD := if (inPic c r ∧ wthn v 0 9) ∧ ¬ pix (fun k => gA d nw (96 + k)) c r = v then tA (ntD d m nw ah u) nw (upd (gA d nw) (96 + (12 * tN r + tN c)) v) else d
def rliD (d : mD) (m nw ah u : Nat) (v : Int32) : mD := if wthn v 0 4 ∧ ¬ gA d nw 192 = v then tA (ntD d m nw ah u) nw (upd (gA d nw) 192 v) else d
def shP (f : Nat → Int32) (x y : Int32) (k : Nat) : Int32 := pix f (mRem (nI k) 12 + x) (nI k / 12 + y)
def rshD (d : mD) (m nw rd ah u : Nat) (x y : Int32) : mD := if wthn x (-3) 3 ∧ wthn y (-3) 3 then tA (tA (ntD d m nw ah u) rd (cpF (gA d rd) (shP (fun k => gA d nw (96 + k)) x y) 0 96)) nw (cpF (gA d nw) (shP (fun k => gA d nw (96 + k)) x y) 96 96) else d
def rshR (fn : Nat → Int32) (x y : Int32) : Int32 := if wthn x (-3) 3 ∧ wthn y (-3) 3 then cntL (fun k => decide (¬ fn k = shP fn x y k)) 96 0 0 else -1000001
def rtkD (d : mD) (m nw ah u : Nat) : mD := tA (ntD d m nw ah u) nw (cpF (gA d nw) (fun k => gA d nw (96 + k)) 0 96)
def rtkR (fo fn : Nat → Int32) : Int32 := cntL (fun k => decide (¬ fo k = fn k)) 96 0 0
def runR (u : Nat) : Int32 := if u = 0 then -1000004 else nI (u - 1)
def runF (g w : Nat → Int32) (u : Nat) : Nat → Int32 := cpF w (fun k => g (194 * (u - 1) + k)) 0 194
def runD (d : mD) (m nw ah u : Nat) : mD := if u = 0 then d else sI (tA d nw (runF (gA d ah) (gA d nw) u)) 299 m (nI (u - 1))
def rseR (x v : Int32) : Int32 := if 0 ≤ v then x else -1000001
def rseD (d : mD) (nw : Nat) (v : Int32) : mD := if 0 ≤ v then tA d nw (upd (gA d nw) 193 v) else d
def rcsR (k : Int32) (fo fn : Nat → Int32) (b mo : Int32) : Int32 := if wthn b 0 5 ∧ wthn mo 0 48 then rcC k fo fn b mo else -1000001
def rrbR (g fo : Nat → Int32) (c r : Int32) : Int32 := if inPic c r then rebI g fo (tN c) (tN r) else -1000001
def rrbD (d : mD) (fd : Nat) (g : Nat → Int32) (c r : Int32) : mD := if inPic c r then tA d fd g else d
def rimD (d : mD) (m nw ah kp ka : Nat) : mD := sI (tA (tA d kp (cpF (gA d kp) (gA d nw) 0 194)) ka (cpF (gA d ka) (gA d ah) 0 1552)) 302 m (gI d 299 m)
def rreR (z : Int32) : Int32 := if 0 ≤ z then 1 else -1000004
def rreD (d : mD) (m nw ah kp ka : Nat) : mD := if 0 ≤ gI d 302 m then sI (tA (tA d nw (cpF (gA d nw) (gA d kp) 0 194)) ah (cpF (gA d ah) (gA d ka) 0 1552)) 299 m (gI d 302 m) else d
def rofR (o f g : Nat → Int32) (k : Int32) (b w : Int32) : Int32 := if wthn b 0 5 then (if w = 0 then rbE o k f (fun j => f (96 + j)) b else if w = 1 then rcC k f (fun j => f (96 + j)) b (rbE o k f (fun j => f (96 + j)) b) else if w = 2 then (trQ o k f (fun j => f (96 + j)) b).1 else if w = 3 then (trQ o k f (fun j => f (96 + j)) b).2.1 else if w = 4 then (trQ o k f (fun j => f (96 + j)) b).2.2 else if w = 5 then rqE o k f (fun j => f (96 + j)) b else if w = 6 then (rhL f (fun j => f (96 + j)) b (rbE o k f (fun j => f (96 + j)) b) 9 0 0 99999).1 else if w = 7 then (rhL f (fun j => f (96 + j)) b (rbE o k f (fun j => f (96 + j)) b) 9 0 0 99999).2 else if w = 8 then rfI g 1 (tN b) else if w = 9 then rfI g 0 (tN b) else -1000001) else -1000001
def rofD (d : mD) (m fd : Nat) (q : Int32 × Int32 × Int32) (g : Nat → Int32) (b w : Int32) : mD := if wthn b 0 5 then (if w = 2 ∨ w = 3 ∨ w = 4 then trT d m q else if w = 8 ∨ w = 9 then tA d fd g else d) else d
theorem trT_290 (d : mD) (m : Nat) (q : Int32 × Int32 × Int32) : gI (trT d m q) 290 m = q.1 := gtr_290 _ _ _ _ _
theorem trT_291 (d : mD) (m : Nat) (q : Int32 × Int32 × Int32) : gI (trT d m q) 291 m = q.2.1 := gtr_291 _ _ _ _ _
theorem trT_292 (d : mD) (m : Nat) (q : Int32 × Int32 × Int32) : gI (trT d m q) 292 m = q.2.2 := gtr_292 _ _ _ _ _
theorem c_X9_notes {l : Launch} {G : mG} {Z : mZ} {d : mD} {m nw od fd tp rd ah kp ka ln sz it mv : Nat} {u : Nat} (hm : mdS Z m nw od fd tp rd ah kp ka ln sz it mv) (hu : gI d 299 m = nI u) (hu8 : u ≤ 8) : CtV l G yX9_notes cX9_notes 2 0 0 [.ref m] Z d (ntD d m nw ah u) := by
  refine enterV RX9 1 [some (.ref m), none] (by decide) rfl rfl rfl (fun X hR => ?_)
  have J48 : ∀ (g : Nat → Int32) (v : Nat), (g = ntG (gA d ah) u ∧ v = ntN u) → mGo l G (mRm 0 0) X RX9 cX9_notes 2 0 0 Z 48 [some (.ref m), none] [] (sI (tA d ah g) 299 m (nI v)) := by
    intro g v hJ48
    obtain ⟨h1, h2⟩ := hJ48
    have hv8 : v ≤ 7 := by rw [h2]; have := ntN_le hu8; omega
    refine g_iconst (pc := 48) dX9_notes_48 kc0 ?_
    refine is1 (pc := 49) dX9_notes_49 rfl ?_
    have L50 : ∀ (n i : Nat), i + n = 194 → mGo l G (mRm 0 0) X RX9 cX9_notes 2 0 0 Z 50 [some (.ref m), some (.int (nI i))] [] (sI (tA d ah (cpF g (gA d nw) (194 * v) i)) 299 m (nI v)) := by
      intro n; induction n with
      | zero =>
        intro i  hin50 
        obtain rfl : i = 194 := by omega
        refine il1 (pc := 50) dX9_notes_50 ?_
        refine g_sipush (pc := 51) dX9_notes_51 ks194 ?_
        refine g_icmpge 84 (pc := 54) dX9_notes_54 (by decide) (fun c54 => ?_) (fun c54 => absurd (nI_le (a := 194) (by omega) (by omega)) c54)
        refine al0 (pc := 84) dX9_notes_84 ?_
        refine g_dupR (pc := 85) dX9_notes_85 ?_
        refine gf_X9_166 (pc := 86) hm.o9 dX9_notes_86 ?_
        rw [gI_eq]
        refine g_iconst (pc := 89) dX9_notes_89 kc1 ?_
        refine g_iadd (pc := 90) dX9_notes_90 ?_
        refine pf_X9_166 (pc := 91) hm.o9 dX9_notes_91 ?_
        exact retV (pc := 94) hR dX9_notes_94 (by rw [nI_1, ntD, ntF, ← h1, ← h2]; exact (sI_sI _ _ _ _ _))
      | succ n ih50 =>
        intro i  hin50 
        refine il1 (pc := 50) dX9_notes_50 ?_
        refine g_sipush (pc := 51) dX9_notes_51 ks194 ?_
        refine g_icmpge 84 (pc := 54) dX9_notes_54 (by decide) (fun c54 => absurd c54 (nI_ge (b := 194) (by omega) (by omega))) (fun c54 => ?_)
        refine al0 (pc := 57) dX9_notes_57 ?_
        refine gf_X9_25 (pc := 58) hm.o9 hm.r298 dX9_notes_58 ?_
        refine g_sipush (pc := 61) dX9_notes_61 ks194 ?_
        refine al0 (pc := 64) dX9_notes_64 ?_
        refine gf_X9_166 (pc := 65) hm.o9 dX9_notes_65 ?_
        rw [gI_eq]
        refine g_imul (pc := 68) dX9_notes_68 ?_
        refine il1 (pc := 69) dX9_notes_69 ?_
        refine g_iadd (pc := 70) dX9_notes_70 ?_
        refine al0 (pc := 71) dX9_notes_71 ?_
        refine gf_X9_7 (pc := 72) hm.o9 hm.r288 dX9_notes_72 ?_
        refine il1 (pc := 75) dX9_notes_75 ?_
        refine g_iald (pc := 76) i hm.a_nw (by omega) (rfl) (by decide) dX9_notes_76 ?_
        rw [gA_sI, gA_tA, if_neg hm.n_nw_ah]
        refine g_iast (pc := 77) (194 * v + i) hm.a_ah (by omega) (by rw [show (194 : Int32) = nI 194 from rfl, pk_mul, nI_add]) (by decide) dX9_notes_77 ?_
        rw [gA_sI, gA_tA, if_pos rfl, tA_sIc, tA_tA, cpF_s]
        refine ic1 (pc := 78) dX9_notes_78 kc1 rfl ?_
        refine g_goto 50 (pc := 81) dX9_notes_81 (by decide) ?_
        rw [nI_1]
        exact ih50 (i + 1) (by omega)
    have q9 := L50 194 0 (by omega)
    rw [cpF_0] at q9
    exact q9
  refine al0 (pc := 0) dX9_notes_0 ?_
  refine gf_X9_166 (pc := 1) hm.o9 dX9_notes_1 ?_
  refine g_bipush (pc := 4) dX9_notes_4 kb8 ?_
  refine g_icmpne 48 (pc := 6) dX9_notes_6 (by decide) (fun c6 => ?_) (fun c6 => ?_)
  · skip
    have hne : ¬ u = 8 := fun h => c6 (by rw [hu, h]; rfl)
    have q9 := J48 (gA d ah) u ⟨by rw [ntG, if_neg hne], by rw [ntN, if_neg hne]⟩
    rw [tA_self, ← hu, sI_self] at q9
    exact q9
  · skip
    have heq : u = 8 := by rw [hu] at c6; exact (nI_eq (b := 8) (by omega) (by decide)).mp c6
    refine g_sipush (pc := 9) dX9_notes_9 ks194 ?_
    refine is1 (pc := 12) dX9_notes_12 rfl ?_
    have L13 : ∀ (n i : Nat), i + n = 1358 → mGo l G (mRm 0 0) X RX9 cX9_notes 2 0 0 Z 13 [some (.ref m), some (.int (nI (194 + i)))] [] (tA d ah (rnS (gA d ah) i)) := by
      intro n; induction n with
      | zero =>
        intro i  hin13 
        obtain rfl : i = 1358 := by omega
        refine il1 (pc := 13) dX9_notes_13 ?_
        refine g_sipush (pc := 14) dX9_notes_14 ks1552 ?_
        refine g_icmpge 42 (pc := 17) dX9_notes_17 (by decide) (fun c17 => ?_) (fun c17 => absurd (nI_le (a := 1552) (by omega) (by omega)) c17)
        refine al0 (pc := 42) dX9_notes_42 ?_
        refine g_bipush (pc := 43) dX9_notes_43 kb7 ?_
        refine pf_X9_166 (pc := 45) hm.o9 dX9_notes_45 ?_
        refine dr1 ?_
        rw [show (7 : Int32) = nI 7 from rfl]
        exact J48 _ 7 ⟨by rw [ntG, if_pos heq], by rw [ntN, if_pos heq]⟩
      | succ n ih13 =>
        intro i  hin13 
        refine il1 (pc := 13) dX9_notes_13 ?_
        refine g_sipush (pc := 14) dX9_notes_14 ks1552 ?_
        refine g_icmpge 42 (pc := 17) dX9_notes_17 (by decide) (fun c17 => absurd c17 (nI_ge (b := 1552) (by omega) (by omega))) (fun c17 => ?_)
        refine al0 (pc := 20) dX9_notes_20 ?_
        refine gf_X9_25 (pc := 21) hm.o9 hm.r298 dX9_notes_21 ?_
        refine il1 (pc := 24) dX9_notes_24 ?_
        refine g_sipush (pc := 25) dX9_notes_25 ks194 ?_
        refine g_isub (pc := 28) dX9_notes_28 ?_
        refine al0 (pc := 29) dX9_notes_29 ?_
        refine gf_X9_25 (pc := 30) hm.o9 hm.r298 dX9_notes_30 ?_
        refine il1 (pc := 33) dX9_notes_33 ?_
        refine g_iald (pc := 34) (194 + i) hm.a_ah (by omega) (rfl) (by decide) dX9_notes_34 ?_
        rw [nI_194, gA_tA, if_pos rfl]
        refine g_iast (pc := 35) i hm.a_ah (by omega) (rfl) (by decide) dX9_notes_35 ?_
        rw [gA_tA, if_pos rfl, tA_tA, rnS_s]
        refine ic1 (pc := 36) dX9_notes_36 kc1 rfl ?_
        refine g_goto 13 (pc := 39) dX9_notes_39 (by decide) ?_
        rw [nI_1, Nat.add_assoc]
        exact ih13 (i + 1) (by omega)
    have q9 := L13 1358 0 (by omega)
    rw [rnS_0, tA_self] at q9
    exact q9
theorem c_X9_paint {l : Launch} {G : mG} {Z : mZ} {d : mD} {m nw od fd tp rd ah kp ka ln sz it mv : Nat} {u : Nat} {c r v : Int32} (hm : mdS Z m nw od fd tp rd ah kp ka ln sz it mv) (hu : gI d 299 m = nI u) (hu8 : u ≤ 8) : CtI l G yX9_paint cX9_paint 6 .int 1 25 [.ref m, .int c, .int r, .int v] Z d (paiR (fun k => gA d nw (96 + k)) c r v) (rpaD d m nw ah u c r v) := by
  refine enterI RX9 2 [some (.ref m), some (.int c), some (.int r), some (.int v), none, none] (by decide) rfl (rfl) rfl rfl (fun X hR => ?_)
  refine il1 (pc := 0) dX9_paint_0 ?_
  refine g_i2l (pc := 1) dX9_paint_1 ?_
  refine g_lconst (pc := 2) dX9_paint_2 kl0 ?_
  refine g_ldc2 (pc := 3) dX9_paint_3 wk_X9_189 ?_
  refine cl_X9_70 (pc := 6) (c_X9_in) (by decide) ⟨Nat.zero_le _, Nat.zero_le _⟩ (Nat.le_of_ble_eq_true rfl) dX9_paint_6 ?_
  rw [inI c (0) 11 (by decide) (by decide)]
  refine g_ifeq 36 (pc := 9) dX9_paint_9 (by decide) (fun c9 => ?_) (fun c9 => ?_)
  · skip
    (try simp only [mB_eq0, Decidable.not_not] at c9)
    refine g_ldc (pc := 36) dX9_paint_36 wk_X9_145 ?_
    exact retI (pc := 38) hR dX9_paint_38 (by rw [paiR, if_neg]; intro h9; simp [h9] at *) (by rw [rpaD, if_neg]; intro h9; simp [h9.1] at *)
  · skip
    (try simp only [mB_eq0, Decidable.not_not] at c9)
    refine il2 (pc := 12) dX9_paint_12 ?_
    refine g_i2l (pc := 13) dX9_paint_13 ?_
    refine g_lconst (pc := 14) dX9_paint_14 kl0 ?_
    refine g_ldc2 (pc := 15) dX9_paint_15 wk_X9_191 ?_
    refine cl_X9_70 (pc := 18) (c_X9_in) (by decide) ⟨Nat.zero_le _, Nat.zero_le _⟩ (Nat.le_of_ble_eq_true rfl) dX9_paint_18 ?_
    rw [inI r (0) 7 (by decide) (by decide)]
    refine g_ifeq 36 (pc := 21) dX9_paint_21 (by decide) (fun c21 => ?_) (fun c21 => ?_)
    · skip
      (try simp only [mB_eq0, Decidable.not_not] at c21)
      refine g_ldc (pc := 36) dX9_paint_36 wk_X9_145 ?_
      exact retI (pc := 38) hR dX9_paint_38 (by rw [paiR, if_neg]; intro h9; simp [h9] at *) (by rw [rpaD, if_neg]; intro h9; simp [h9.1] at *)
    · skip
      (try simp only [mB_eq0, Decidable.not_not] at c21)
      refine il3 (pc := 24) dX9_paint_24 ?_
      refine g_i2l (pc := 25) dX9_paint_25 ?_
      refine g_lconst (pc := 26) dX9_paint_26 kl0 ?_
      refine g_ldc2 (pc := 27) dX9_paint_27 wk_X9_183 ?_
      refine cl_X9_70 (pc := 30) (c_X9_in) (by decide) ⟨Nat.zero_le _, Nat.zero_le _⟩ (Nat.le_of_ble_eq_true rfl) dX9_paint_30 ?_
      rw [inI v (0) 9 (by decide) (by decide)]
      refine g_ifne 39 (pc := 33) dX9_paint_33 (by decide) (fun c33 => ?_) (fun c33 => ?_)
      · skip
        (try simp only [mB_eq0, Decidable.not_not] at c33)
        refine g_bipush (pc := 39) dX9_paint_39 kb96 ?_
        refine g_bipush (pc := 41) dX9_paint_41 kb12 ?_
        refine il2 (pc := 43) dX9_paint_43 ?_
        refine g_imul (pc := 44) dX9_paint_44 ?_
        refine g_iadd (pc := 45) dX9_paint_45 ?_
        refine il1 (pc := 46) dX9_paint_46 ?_
        refine g_iadd (pc := 47) dX9_paint_47 ?_
        refine is4 (pc := 48) dX9_paint_48 rfl ?_
        refine al0 (pc := 50) dX9_paint_50 ?_
        refine gf_X9_7 (pc := 51) hm.o9 hm.r288 dX9_paint_51 ?_
        refine il4 (pc := 54) dX9_paint_54 ?_
        have h1 := wth_nI 11 (by decide) c9
        have h2 := wth_nI 7 (by decide) c21
        refine g_iald (pc := 56) (96 + (12 * tN r + tN c)) hm.a_nw (by omega) (by rw [show (96 : Int32) + 12 * r + c = nI 96 + nI 12 * nI (tN r) + nI (tN c) by rw [← h1.1, ← h2.1]; rfl, pk_mul, nI_add, nI_add, Nat.add_assoc]) (by decide) dX9_paint_56 ?_
        rw [show gA d nw (96 + (12 * tN r + tN c)) = pix (fun k => gA d nw (96 + k)) c r from (pix_in (fun k => gA d nw (96 + k)) c9 c21).symm]
        refine is5 (pc := 57) dX9_paint_57 rfl ?_
        refine il5 (pc := 59) dX9_paint_59 ?_
        refine il3 (pc := 61) dX9_paint_61 ?_
        refine g_icmpne 68 (pc := 62) dX9_paint_62 (by decide) (fun c62 => ?_) (fun c62 => ?_)
        · skip
          refine al0 (pc := 68) dX9_paint_68 ?_
          refine cl_X9_194 (pc := 69) (c_X9_notes hm hu hu8) hm.o9 (by decide) ⟨Nat.zero_le _, Nat.zero_le _⟩ (Nat.le_of_ble_eq_true rfl) dX9_paint_69 ?_
          refine al0 (pc := 72) dX9_paint_72 ?_
          refine gf_X9_7 (pc := 73) hm.o9 hm.r288 dX9_paint_73 ?_
          refine il4 (pc := 76) dX9_paint_76 ?_
          refine il3 (pc := 78) dX9_paint_78 ?_
          refine g_iast (pc := 79) (96 + (12 * tN r + tN c)) hm.a_nw (by omega) (by rw [show (96 : Int32) + 12 * r + c = nI 96 + nI 12 * nI (tN r) + nI (tN c) by rw [← h1.1, ← h2.1]; rfl, pk_mul, nI_add, nI_add, Nat.add_assoc]) (by decide) dX9_paint_79 ?_
          rw [gA_nt _ _ _ _ _ hm.n_nw_ah]
          refine il5 (pc := 80) dX9_paint_80 ?_
          exact retI (pc := 82) hR dX9_paint_82 (by rw [paiR, if_pos ⟨⟨c9, c21⟩, c33⟩, if_neg c62]) (by rw [rpaD, if_pos ⟨⟨⟨c9, c21⟩, c33⟩, c62⟩])
        · skip
          refine g_ldc (pc := 65) dX9_paint_65 wk_X9_193 ?_
          exact retI (pc := 67) hR dX9_paint_67 (by rw [paiR, if_pos ⟨⟨c9, c21⟩, c33⟩, if_pos c62]) (by rw [rpaD, if_neg]; intro h9; exact h9.2 c62)
      · skip
        (try simp only [mB_eq0, Decidable.not_not] at c33)
        refine g_ldc (pc := 36) dX9_paint_36 wk_X9_145 ?_
        exact retI (pc := 38) hR dX9_paint_38 (by rw [paiR, if_neg]; intro h9; simp [h9] at *) (by rw [rpaD, if_neg]; intro h9; simp [h9.1] at *)
theorem c_X9_shift {l : Launch} {G : mG} {Z : mZ} {d : mD} {m nw od fd tp rd ah kp ka ln sz it mv : Nat} {u : Nat} {x y : Int32} (hm : mdS Z m nw od fd tp rd ah kp ka ln sz it mv) (hu : gI d 299 m = nI u) (hu8 : u ≤ 8) : CtI l G yX9_shift cX9_shift 5 .int 2 44 [.ref m, .int x, .int y] Z d (rshR (fun k => gA d nw (96 + k)) x y) (rshD d m nw rd ah u x y) := by
  refine enterI RX9 2 [some (.ref m), some (.int x), some (.int y), none, none] (by decide) rfl (rfl) rfl rfl (fun X hR => ?_)
  refine il1 (pc := 0) dX9_shift_0 ?_
  refine g_i2l (pc := 1) dX9_shift_1 ?_
  refine g_ldc2 (pc := 2) dX9_shift_2 wk_X9_139 ?_
  refine g_ldc2 (pc := 5) dX9_shift_5 wk_X9_197 ?_
  refine cl_X9_70 (pc := 8) (c_X9_in) (by decide) ⟨Nat.zero_le _, Nat.zero_le _⟩ (Nat.le_of_ble_eq_true rfl) dX9_shift_8 ?_
  rw [inI x (-3) 3 (by decide) (by decide)]
  refine g_ifeq 28 (pc := 11) dX9_shift_11 (by decide) (fun c11 => ?_) (fun c11 => ?_)
  · skip
    (try simp only [mB_eq0, Decidable.not_not] at c11)
    refine g_ldc (pc := 28) dX9_shift_28 wk_X9_145 ?_
    exact retI (pc := 30) hR dX9_shift_30 (by rw [rshR, if_neg]; intro h9; simp [h9] at *) (by rw [rshD, if_neg]; intro h9; simp [h9] at *)
  · skip
    (try simp only [mB_eq0, Decidable.not_not] at c11)
    refine il2 (pc := 14) dX9_shift_14 ?_
    refine g_i2l (pc := 15) dX9_shift_15 ?_
    refine g_ldc2 (pc := 16) dX9_shift_16 wk_X9_139 ?_
    refine g_ldc2 (pc := 19) dX9_shift_19 wk_X9_197 ?_
    refine cl_X9_70 (pc := 22) (c_X9_in) (by decide) ⟨Nat.zero_le _, Nat.zero_le _⟩ (Nat.le_of_ble_eq_true rfl) dX9_shift_22 ?_
    rw [inI y (-3) 3 (by decide) (by decide)]
    refine g_ifne 31 (pc := 25) dX9_shift_25 (by decide) (fun c25 => ?_) (fun c25 => ?_)
    · skip
      (try simp only [mB_eq0, Decidable.not_not] at c25)
      refine al0 (pc := 31) dX9_shift_31 ?_
      refine cl_X9_194 (pc := 32) (c_X9_notes hm hu hu8) hm.o9 (by decide) ⟨Nat.zero_le _, Nat.zero_le _⟩ (Nat.le_of_ble_eq_true rfl) dX9_shift_32 ?_
      refine g_iconst (pc := 35) dX9_shift_35 kc0 ?_
      refine is3 (pc := 36) dX9_shift_36 rfl ?_
      have L37 : ∀ (n i : Nat), i + n = 96 → mGo l G (mRm 2 44) X RX9 cX9_shift 5 0 0 Z 37 [some (.ref m), some (.int x), some (.int y), some (.int (nI i)), none] [] (tA (ntD d m nw ah u) rd (cpF (gA d rd) (shP (fun k => gA d nw (96 + k)) x y) 0 i)) := by
        intro n; induction n with
        | zero =>
          intro i  hin37 
          obtain rfl : i = 96 := by omega
          refine il3 (pc := 37) dX9_shift_37 ?_
          refine g_bipush (pc := 38) dX9_shift_38 kb96 ?_
          refine g_icmpge 73 (pc := 40) dX9_shift_40 (by decide) (fun c40 => ?_) (fun c40 => absurd (nI_le (a := 96) (by omega) (by omega)) c40)
          refine g_iconst (pc := 73) dX9_shift_73 kc0 ?_
          refine is3 (pc := 74) dX9_shift_74 rfl ?_
          refine g_iconst (pc := 75) dX9_shift_75 kc0 ?_
          refine is4 (pc := 76) dX9_shift_76 rfl ?_
          have L78 : ∀ (n i : Nat) (a9 : Int32), i + n = 96 → (cntL (fun k => decide (¬ (fun k => gA d nw (96 + k)) k = (shP (fun k => gA d nw (96 + k)) x y) k)) n i a9 = cntL (fun k => decide (¬ (fun k => gA d nw (96 + k)) k = (shP (fun k => gA d nw (96 + k)) x y) k)) 96 0 0) → mGo l G (mRm 2 44) X RX9 cX9_shift 5 0 0 Z 78 [some (.ref m), some (.int x), some (.int y), some (.int a9), some (.int (nI i))] [] (tA (tA (ntD d m nw ah u) rd (cpF (gA d rd) (shP (fun k => gA d nw (96 + k)) x y) 0 96)) nw (cpF (gA d nw) (shP (fun k => gA d nw (96 + k)) x y) 96 i)) := by
            intro n; induction n with
            | zero =>
              intro i a9 hin78 hF
              obtain rfl : i = 96 := by omega
              refine il4 (pc := 78) dX9_shift_78 ?_
              refine g_bipush (pc := 80) dX9_shift_80 kb96 ?_
              refine g_icmpge 136 (pc := 82) dX9_shift_82 (by decide) (fun c82 => ?_) (fun c82 => absurd (nI_le (a := 96) (by omega) (by omega)) c82)
              refine il3 (pc := 136) dX9_shift_136 ?_
              exact retI (pc := 137) hR dX9_shift_137 (by rw [rshR, if_pos ⟨c11, c25⟩]; exact hF) (by rw [rshD, if_pos ⟨c11, c25⟩])
            | succ n ih78 =>
              intro i a9 hin78 hF
              refine il4 (pc := 78) dX9_shift_78 ?_
              refine g_bipush (pc := 80) dX9_shift_80 kb96 ?_
              refine g_icmpge 136 (pc := 82) dX9_shift_82 (by decide) (fun c82 => absurd c82 (nI_ge (b := 96) (by omega) (by omega))) (fun c82 => ?_)
              refine il3 (pc := 85) dX9_shift_85 ?_
              refine al0 (pc := 86) dX9_shift_86 ?_
              refine gf_X9_7 (pc := 87) hm.o9 hm.r288 dX9_shift_87 ?_
              refine g_bipush (pc := 90) dX9_shift_90 kb96 ?_
              refine il4 (pc := 92) dX9_shift_92 ?_
              refine g_iadd (pc := 94) dX9_shift_94 ?_
              refine g_iald (pc := 95) (96 + i) hm.a_nw (by omega) (nI_add 96 i) (by decide) dX9_shift_95 ?_
              rw [gA_tA, if_pos rfl, cpF_at _ _ _ _ _ (by omega)]
              refine al0 (pc := 96) dX9_shift_96 ?_
              refine gf_X9_22 (pc := 97) hm.o9 hm.r297 dX9_shift_97 ?_
              refine il4 (pc := 100) dX9_shift_100 ?_
              refine g_iald (pc := 102) i hm.a_rd (by omega) (rfl) (by decide) dX9_shift_102 ?_
              rw [gA_tA, if_neg hm.n_rd_nw, gA_tA, if_pos rfl, cpF_in0 _ _ _ _ (by omega)]
              refine g_icmpne 110 (pc := 103) dX9_shift_103 (by decide) (fun c103 => ?_) (fun c103 => ?_)
              · skip
                refine g_iconst (pc := 110) dX9_shift_110 kc1 ?_
                refine g_iadd (pc := 111) dX9_shift_111 ?_
                refine is3 (pc := 112) dX9_shift_112 rfl ?_
                refine al0 (pc := 113) dX9_shift_113 ?_
                refine gf_X9_7 (pc := 114) hm.o9 hm.r288 dX9_shift_114 ?_
                refine g_bipush (pc := 117) dX9_shift_117 kb96 ?_
                refine il4 (pc := 119) dX9_shift_119 ?_
                refine g_iadd (pc := 121) dX9_shift_121 ?_
                refine al0 (pc := 122) dX9_shift_122 ?_
                refine gf_X9_22 (pc := 123) hm.o9 hm.r297 dX9_shift_123 ?_
                refine il4 (pc := 126) dX9_shift_126 ?_
                refine g_iald (pc := 128) i hm.a_rd (by omega) (rfl) (by decide) dX9_shift_128 ?_
                rw [gA_tA, if_neg hm.n_rd_nw, gA_tA, if_pos rfl, cpF_in0 _ _ _ _ (by omega)]
                refine g_iast (pc := 129) (96 + i) hm.a_nw (by omega) (nI_add 96 i) (by decide) dX9_shift_129 ?_
                rw [gA_tA, if_pos rfl, tA_tA, cpF_s]
                refine ic4 (pc := 130) dX9_shift_130 kc1 rfl ?_
                refine g_goto 78 (pc := 133) dX9_shift_133 (by decide) ?_
                rw [nI_1]
                exact ih78 (i + 1) _ (by omega) (by rw [← hF, cntL]; simp [c103])
              · skip
                refine g_iconst (pc := 106) dX9_shift_106 kc0 ?_
                refine g_goto 111 (pc := 107) dX9_shift_107 (by decide) ?_
                refine g_iadd (pc := 111) dX9_shift_111 ?_
                refine is3 (pc := 112) dX9_shift_112 rfl ?_
                refine al0 (pc := 113) dX9_shift_113 ?_
                refine gf_X9_7 (pc := 114) hm.o9 hm.r288 dX9_shift_114 ?_
                refine g_bipush (pc := 117) dX9_shift_117 kb96 ?_
                refine il4 (pc := 119) dX9_shift_119 ?_
                refine g_iadd (pc := 121) dX9_shift_121 ?_
                refine al0 (pc := 122) dX9_shift_122 ?_
                refine gf_X9_22 (pc := 123) hm.o9 hm.r297 dX9_shift_123 ?_
                refine il4 (pc := 126) dX9_shift_126 ?_
                refine g_iald (pc := 128) i hm.a_rd (by omega) (rfl) (by decide) dX9_shift_128 ?_
                rw [gA_tA, if_neg hm.n_rd_nw, gA_tA, if_pos rfl, cpF_in0 _ _ _ _ (by omega)]
                refine g_iast (pc := 129) (96 + i) hm.a_nw (by omega) (nI_add 96 i) (by decide) dX9_shift_129 ?_
                rw [gA_tA, if_pos rfl, tA_tA, cpF_s]
                refine ic4 (pc := 130) dX9_shift_130 kc1 rfl ?_
                refine g_goto 78 (pc := 133) dX9_shift_133 (by decide) ?_
                rw [nI_1]
                exact ih78 (i + 1) _ (by omega) (by rw [← hF, cntL]; simp [c103])
          have q9 := L78 96 0 0 (by omega) rfl
          rw [cpF_0, show tA (tA (ntD d m nw ah u) rd (cpF (gA d rd) (shP (fun k => gA d nw (96 + k)) x y) 0 96)) nw (gA d nw) = tA (ntD d m nw ah u) rd (cpF (gA d rd) (shP (fun k => gA d nw (96 + k)) x y) 0 96) from tA_selfE (by rw [gA_tA, if_neg hm.n_nw_rd, gA_nt _ _ _ _ _ hm.n_nw_ah])] at q9
          exact q9
        | succ n ih37 =>
          intro i  hin37 
          refine il3 (pc := 37) dX9_shift_37 ?_
          refine g_bipush (pc := 38) dX9_shift_38 kb96 ?_
          refine g_icmpge 73 (pc := 40) dX9_shift_40 (by decide) (fun c40 => absurd c40 (nI_ge (b := 96) (by omega) (by omega))) (fun c40 => ?_)
          refine al0 (pc := 43) dX9_shift_43 ?_
          refine gf_X9_22 (pc := 44) hm.o9 hm.r297 dX9_shift_44 ?_
          refine il3 (pc := 47) dX9_shift_47 ?_
          refine al0 (pc := 48) dX9_shift_48 ?_
          refine g_bipush (pc := 49) dX9_shift_49 kb96 ?_
          refine il3 (pc := 51) dX9_shift_51 ?_
          refine g_bipush (pc := 52) dX9_shift_52 kb12 ?_
          refine g_irem (pc := 54) dX9_shift_54 (by decide) ?_
          refine il1 (pc := 55) dX9_shift_55 ?_
          refine g_iadd (pc := 56) dX9_shift_56 ?_
          refine il3 (pc := 57) dX9_shift_57 ?_
          refine g_bipush (pc := 58) dX9_shift_58 kb12 ?_
          refine g_idiv (pc := 60) dX9_shift_60 (by decide) ?_
          refine il2 (pc := 61) dX9_shift_61 ?_
          refine g_iadd (pc := 62) dX9_shift_62 ?_
          refine cl_X9_76 (pc := 63) (c_X9_dotAt (pb := 96) hm (by decide)) hm.o9 (by decide) ⟨Nat.zero_le _, Nat.zero_le _⟩ (Nat.le_of_ble_eq_true rfl) dX9_shift_63 ?_
          rw [gA_tA, if_neg hm.n_nw_rd, gA_nt _ _ _ _ _ hm.n_nw_ah, ← shP]
          refine g_iast (pc := 66) i hm.a_rd (by omega) (rfl) (by decide) dX9_shift_66 ?_
          rw [gA_tA, if_pos rfl, tA_tA, cpF_s0]
          refine ic3 (pc := 67) dX9_shift_67 kc1 rfl ?_
          refine g_goto 37 (pc := 70) dX9_shift_70 (by decide) ?_
          rw [nI_1]
          exact ih37 (i + 1) (by omega)
      have q9 := L37 96 0 (by omega)
      rw [cpF_0, show tA (ntD d m nw ah u) rd (gA d rd) = ntD d m nw ah u by rw [← gA_nt d m nw ah u hm.n_rd_ah, tA_self]] at q9
      exact q9
    · skip
      (try simp only [mB_eq0, Decidable.not_not] at c25)
      refine g_ldc (pc := 28) dX9_shift_28 wk_X9_145 ?_
      exact retI (pc := 30) hR dX9_shift_30 (by rw [rshR, if_neg]; intro h9; simp [h9] at *) (by rw [rshD, if_neg]; intro h9; simp [h9] at *)
theorem c_X9_take {l : Launch} {G : mG} {Z : mZ} {d : mD} {m nw od fd tp rd ah kp ka ln sz it mv : Nat} {u : Nat} (hm : mdS Z m nw od fd tp rd ah kp ka ln sz it mv) (hu : gI d 299 m = nI u) (hu8 : u ≤ 8) : CtI l G yX9_take cX9_take 3 .int 1 21 [.ref m] Z d (rtkR (gA d nw) (fun k => gA d nw (96 + k))) (rtkD d m nw ah u) := by
  refine enterI RX9 2 [some (.ref m), none, none] (by decide) rfl (rfl) rfl rfl (fun X hR => ?_)
  refine al0 (pc := 0) dX9_take_0 ?_
  refine cl_X9_194 (pc := 1) (c_X9_notes hm hu hu8) hm.o9 (by decide) ⟨Nat.zero_le _, Nat.zero_le _⟩ (Nat.le_of_ble_eq_true rfl) dX9_take_1 ?_
  refine g_iconst (pc := 4) dX9_take_4 kc0 ?_
  refine is1 (pc := 5) dX9_take_5 rfl ?_
  refine g_iconst (pc := 6) dX9_take_6 kc0 ?_
  refine is2 (pc := 7) dX9_take_7 rfl ?_
  have L8 : ∀ (n i : Nat) (a9 : Int32), i + n = 96 → (cntL (fun k => decide (¬ (gA d nw) k = (fun k => gA d nw (96 + k)) k)) n i a9 = rtkR (gA d nw) (fun k => gA d nw (96 + k))) → mGo l G (mRm 1 21) X RX9 cX9_take 3 0 0 Z 8 [some (.ref m), some (.int a9), some (.int (nI i))] [] (tA (ntD d m nw ah u) nw (cpF (gA d nw) (fun k => gA d nw (96 + k)) 0 i)) := by
    intro n; induction n with
    | zero =>
      intro i a9 hin8 hF
      obtain rfl : i = 96 := by omega
      refine il2 (pc := 8) dX9_take_8 ?_
      refine g_bipush (pc := 9) dX9_take_9 kb96 ?_
      refine g_icmpge 65 (pc := 11) dX9_take_11 (by decide) (fun c11 => ?_) (fun c11 => absurd (nI_le (a := 96) (by omega) (by omega)) c11)
      refine il1 (pc := 65) dX9_take_65 ?_
      exact retI (pc := 66) hR dX9_take_66 (hF) (rfl)
    | succ n ih8 =>
      intro i a9 hin8 hF
      refine il2 (pc := 8) dX9_take_8 ?_
      refine g_bipush (pc := 9) dX9_take_9 kb96 ?_
      refine g_icmpge 65 (pc := 11) dX9_take_11 (by decide) (fun c11 => absurd c11 (nI_ge (b := 96) (by omega) (by omega))) (fun c11 => ?_)
      refine il1 (pc := 14) dX9_take_14 ?_
      refine al0 (pc := 15) dX9_take_15 ?_
      refine gf_X9_7 (pc := 16) hm.o9 hm.r288 dX9_take_16 ?_
      refine g_iconst (pc := 19) dX9_take_19 kc0 ?_
      refine il2 (pc := 20) dX9_take_20 ?_
      refine g_iadd (pc := 21) dX9_take_21 ?_
      refine g_iald (pc := 22) i hm.a_nw (by omega) (Int32.zero_add _) (by decide) dX9_take_22 ?_
      rw [gA_tA, if_pos rfl, cpF_at _ _ _ _ _ (by omega)]
      refine al0 (pc := 23) dX9_take_23 ?_
      refine gf_X9_7 (pc := 24) hm.o9 hm.r288 dX9_take_24 ?_
      refine g_bipush (pc := 27) dX9_take_27 kb96 ?_
      refine il2 (pc := 29) dX9_take_29 ?_
      refine g_iadd (pc := 30) dX9_take_30 ?_
      refine g_iald (pc := 31) (96 + i) hm.a_nw (by omega) (nI_add 96 i) (by decide) dX9_take_31 ?_
      rw [gA_tA, if_pos rfl, cpF_at _ _ _ _ _ (by omega)]
      refine g_icmpne 39 (pc := 32) dX9_take_32 (by decide) (fun c32 => ?_) (fun c32 => ?_)
      · skip
        refine g_iconst (pc := 39) dX9_take_39 kc1 ?_
        refine g_iadd (pc := 40) dX9_take_40 ?_
        refine is1 (pc := 41) dX9_take_41 rfl ?_
        refine al0 (pc := 42) dX9_take_42 ?_
        refine gf_X9_7 (pc := 43) hm.o9 hm.r288 dX9_take_43 ?_
        refine g_iconst (pc := 46) dX9_take_46 kc0 ?_
        refine il2 (pc := 47) dX9_take_47 ?_
        refine g_iadd (pc := 48) dX9_take_48 ?_
        refine al0 (pc := 49) dX9_take_49 ?_
        refine gf_X9_7 (pc := 50) hm.o9 hm.r288 dX9_take_50 ?_
        refine g_bipush (pc := 53) dX9_take_53 kb96 ?_
        refine il2 (pc := 55) dX9_take_55 ?_
        refine g_iadd (pc := 56) dX9_take_56 ?_
        refine g_iald (pc := 57) (96 + i) hm.a_nw (by omega) (nI_add 96 i) (by decide) dX9_take_57 ?_
        rw [gA_tA, if_pos rfl, cpF_at _ _ _ _ _ (by omega)]
        refine g_iast (pc := 58) i hm.a_nw (by omega) (Int32.zero_add _) (by decide) dX9_take_58 ?_
        rw [gA_tA, if_pos rfl, tA_tA, cpF_s0 (gA d nw) (fun k => gA d nw (96 + k)) i]
        refine ic2 (pc := 59) dX9_take_59 kc1 rfl ?_
        refine g_goto 8 (pc := 62) dX9_take_62 (by decide) ?_
        rw [nI_1]
        exact ih8 (i + 1) _ (by omega) (by rw [← hF, cntL]; simp [c32])
      · skip
        refine g_iconst (pc := 35) dX9_take_35 kc0 ?_
        refine g_goto 40 (pc := 36) dX9_take_36 (by decide) ?_
        refine g_iadd (pc := 40) dX9_take_40 ?_
        refine is1 (pc := 41) dX9_take_41 rfl ?_
        refine al0 (pc := 42) dX9_take_42 ?_
        refine gf_X9_7 (pc := 43) hm.o9 hm.r288 dX9_take_43 ?_
        refine g_iconst (pc := 46) dX9_take_46 kc0 ?_
        refine il2 (pc := 47) dX9_take_47 ?_
        refine g_iadd (pc := 48) dX9_take_48 ?_
        refine al0 (pc := 49) dX9_take_49 ?_
        refine gf_X9_7 (pc := 50) hm.o9 hm.r288 dX9_take_50 ?_
        refine g_bipush (pc := 53) dX9_take_53 kb96 ?_
        refine il2 (pc := 55) dX9_take_55 ?_
        refine g_iadd (pc := 56) dX9_take_56 ?_
        refine g_iald (pc := 57) (96 + i) hm.a_nw (by omega) (nI_add 96 i) (by decide) dX9_take_57 ?_
        rw [gA_tA, if_pos rfl, cpF_at _ _ _ _ _ (by omega)]
        refine g_iast (pc := 58) i hm.a_nw (by omega) (Int32.zero_add _) (by decide) dX9_take_58 ?_
        rw [gA_tA, if_pos rfl, tA_tA, cpF_s0 (gA d nw) (fun k => gA d nw (96 + k)) i]
        refine ic2 (pc := 59) dX9_take_59 kc1 rfl ?_
        refine g_goto 8 (pc := 62) dX9_take_62 (by decide) ?_
        rw [nI_1]
        exact ih8 (i + 1) _ (by omega) (by rw [← hF, cntL]; simp [c32])
  have q9 := L8 96 0 0 (by omega) rfl
  rw [cpF_0, show tA (ntD d m nw ah u) nw (gA d nw) = ntD d m nw ah u by rw [← gA_nt d m nw ah u hm.n_nw_ah, tA_self]] at q9
  exact q9
theorem c_X9_like {l : Launch} {G : mG} {Z : mZ} {d : mD} {m nw od fd tp rd ah kp ka ln sz it mv : Nat} {u : Nat} {v : Int32} (hm : mdS Z m nw od fd tp rd ah kp ka ln sz it mv) (hu : gI d 299 m = nI u) (hu8 : u ≤ 8) : CtI l G yX9_like cX9_like 3 .int 1 25 [.ref m, .int v] Z d (likR (gA d nw 192) v) (rliD d m nw ah u v) := by
  refine enterI RX9 1 [some (.ref m), some (.int v), none] (by decide) rfl (rfl) rfl rfl (fun X hR => ?_)
  refine il1 (pc := 0) dX9_like_0 ?_
  refine g_i2l (pc := 1) dX9_like_1 ?_
  refine g_lconst (pc := 2) dX9_like_2 kl0 ?_
  refine g_ldc2 (pc := 3) dX9_like_3 wk_X9_199 ?_
  refine cl_X9_70 (pc := 6) (c_X9_in) (by decide) ⟨Nat.zero_le _, Nat.zero_le _⟩ (Nat.le_of_ble_eq_true rfl) dX9_like_6 ?_
  rw [inI v (0) 4 (by decide) (by decide)]
  refine g_ifne 15 (pc := 9) dX9_like_9 (by decide) (fun c9 => ?_) (fun c9 => ?_)
  · skip
    (try simp only [mB_eq0, Decidable.not_not] at c9)
    refine al0 (pc := 15) dX9_like_15 ?_
    refine gf_X9_7 (pc := 16) hm.o9 hm.r288 dX9_like_16 ?_
    refine g_sipush (pc := 19) dX9_like_19 ks192 ?_
    refine g_iald (pc := 22) 192 hm.a_nw (by decide) (rfl) (by decide) dX9_like_22 ?_
    refine is2 (pc := 23) dX9_like_23 rfl ?_
    refine il2 (pc := 24) dX9_like_24 ?_
    refine il1 (pc := 25) dX9_like_25 ?_
    refine g_icmpne 32 (pc := 26) dX9_like_26 (by decide) (fun c26 => ?_) (fun c26 => ?_)
    · skip
      refine al0 (pc := 32) dX9_like_32 ?_
      refine cl_X9_194 (pc := 33) (c_X9_notes hm hu hu8) hm.o9 (by decide) ⟨Nat.zero_le _, Nat.zero_le _⟩ (Nat.le_of_ble_eq_true rfl) dX9_like_33 ?_
      refine al0 (pc := 36) dX9_like_36 ?_
      refine gf_X9_7 (pc := 37) hm.o9 hm.r288 dX9_like_37 ?_
      refine g_sipush (pc := 40) dX9_like_40 ks192 ?_
      refine il1 (pc := 43) dX9_like_43 ?_
      refine g_iast (pc := 44) 192 hm.a_nw (by decide) (rfl) (by decide) dX9_like_44 ?_
      rw [gA_nt _ _ _ _ _ hm.n_nw_ah]
      refine il2 (pc := 45) dX9_like_45 ?_
      exact retI (pc := 46) hR dX9_like_46 (by rw [likR, if_pos c9, if_neg c26]) (by rw [rliD, if_pos ⟨c9, c26⟩])
    · skip
      refine g_ldc (pc := 29) dX9_like_29 wk_X9_193 ?_
      exact retI (pc := 31) hR dX9_like_31 (by rw [likR, if_pos c9, if_pos c26]) (by rw [rliD, if_neg]; intro h9; exact h9.2 c26)
  · skip
    (try simp only [mB_eq0, Decidable.not_not] at c9)
    refine g_ldc (pc := 12) dX9_like_12 wk_X9_145 ?_
    exact retI (pc := 14) hR dX9_like_14 (by rw [likR, if_neg c9]) (by rw [rliD, if_neg]; intro h9; exact c9 h9.1)
theorem c_X9_undo {l : Launch} {G : mG} {Z : mZ} {d : mD} {m nw od fd tp rd ah kp ka ln sz it mv : Nat} {u : Nat} (hm : mdS Z m nw od fd tp rd ah kp ka ln sz it mv) (hu : gI d 299 m = nI u) (hu8 : u ≤ 8) : CtI l G yX9_undo cX9_undo 2 .int 0 0 [.ref m] Z d (runR u) (runD d m nw ah u) := by
  refine enterI RX9 1 [some (.ref m), none] (by decide) rfl (rfl) rfl rfl (fun X hR => ?_)
  refine al0 (pc := 0) dX9_undo_0 ?_
  refine gf_X9_166 (pc := 1) hm.o9 dX9_undo_1 ?_
  refine g_ifne 10 (pc := 4) dX9_undo_4 (by decide) (fun c4 => ?_) (fun c4 => ?_)
  · skip
    have hne : ¬ u = 0 := fun h => c4 (by rw [hu, h]; rfl)
    refine al0 (pc := 10) dX9_undo_10 ?_
    refine g_dupR (pc := 11) dX9_undo_11 ?_
    refine gf_X9_166 (pc := 12) hm.o9 dX9_undo_12 ?_
    refine g_iconst (pc := 15) dX9_undo_15 kc1 ?_
    refine g_isub (pc := 16) dX9_undo_16 ?_
    rw [hu, show nI u - 1 = nI (u - 1) from pk_sub (b := 1) (by omega)]
    refine pf_X9_166 (pc := 17) hm.o9 dX9_undo_17 ?_
    refine g_iconst (pc := 20) dX9_undo_20 kc0 ?_
    refine is1 (pc := 21) dX9_undo_21 rfl ?_
    have L22 : ∀ (n i : Nat), i + n = 194 → mGo l G (mRm 0 0) X RX9 cX9_undo 2 0 0 Z 22 [some (.ref m), some (.int (nI i))] [] (sI (tA d nw (cpF (gA d nw) (fun k => gA d ah (194 * (u - 1) + k)) 0 i)) 299 m (nI (u - 1))) := by
      intro n; induction n with
      | zero =>
        intro i  hin22 
        obtain rfl : i = 194 := by omega
        refine il1 (pc := 22) dX9_undo_22 ?_
        refine g_sipush (pc := 23) dX9_undo_23 ks194 ?_
        refine g_icmpge 56 (pc := 26) dX9_undo_26 (by decide) (fun c26 => ?_) (fun c26 => absurd (nI_le (a := 194) (by omega) (by omega)) c26)
        refine al0 (pc := 56) dX9_undo_56 ?_
        refine gf_X9_166 (pc := 57) hm.o9 dX9_undo_57 ?_
        rw [gI_eq]
        exact retI (pc := 60) hR dX9_undo_60 (by rw [runR, if_neg hne]) (by rw [runD, if_neg hne]; rfl)
      | succ n ih22 =>
        intro i  hin22 
        refine il1 (pc := 22) dX9_undo_22 ?_
        refine g_sipush (pc := 23) dX9_undo_23 ks194 ?_
        refine g_icmpge 56 (pc := 26) dX9_undo_26 (by decide) (fun c26 => absurd c26 (nI_ge (b := 194) (by omega) (by omega))) (fun c26 => ?_)
        refine al0 (pc := 29) dX9_undo_29 ?_
        refine gf_X9_7 (pc := 30) hm.o9 hm.r288 dX9_undo_30 ?_
        refine il1 (pc := 33) dX9_undo_33 ?_
        refine al0 (pc := 34) dX9_undo_34 ?_
        refine gf_X9_25 (pc := 35) hm.o9 hm.r298 dX9_undo_35 ?_
        refine g_sipush (pc := 38) dX9_undo_38 ks194 ?_
        refine al0 (pc := 41) dX9_undo_41 ?_
        refine gf_X9_166 (pc := 42) hm.o9 dX9_undo_42 ?_
        rw [gI_eq]
        refine g_imul (pc := 45) dX9_undo_45 ?_
        refine il1 (pc := 46) dX9_undo_46 ?_
        refine g_iadd (pc := 47) dX9_undo_47 ?_
        refine g_iald (pc := 48) (194 * (u - 1) + i) hm.a_ah (by omega) (by rw [show (194 : Int32) = nI 194 from rfl, pk_mul, nI_add]) (by decide) dX9_undo_48 ?_
        rw [gA_sI, gA_tA, if_neg hm.n_ah_nw]
        refine g_iast (pc := 49) i hm.a_nw (by omega) (rfl) (by decide) dX9_undo_49 ?_
        rw [gA_sI, gA_tA, if_pos rfl, tA_sIc, tA_tA, cpF_s0 (gA d nw) (fun k => gA d ah (194 * (u - 1) + k)) i]
        refine ic1 (pc := 50) dX9_undo_50 kc1 rfl ?_
        refine g_goto 22 (pc := 53) dX9_undo_53 (by decide) ?_
        rw [nI_1]
        exact ih22 (i + 1) (by omega)
    have q9 := L22 194 0 (by omega)
    rw [cpF_0, tA_self] at q9
    exact q9
  · skip
    have heq : u = 0 := by rw [hu] at c4; exact (nI_eq (b := 0) (by omega) (by decide)).mp c4
    refine g_ldc (pc := 7) dX9_undo_7 wk_X9_108 ?_
    exact retI (pc := 9) hR dX9_undo_9 (by rw [runR, if_pos heq]) (by rw [runD, if_pos heq])
theorem c_X9_seed {l : Launch} {G : mG} {Z : mZ} {d : mD} {m nw od fd tp rd ah kp ka ln sz it mv : Nat} {v : Int32} (hm : mdS Z m nw od fd tp rd ah kp ka ln sz it mv) : CtI l G yX9_seed cX9_seed 3 .int 0 0 [.ref m, .int v] Z d (rseR (gA d nw 193) v) (rseD d nw v) := by
  refine enterI RX9 1 [some (.ref m), some (.int v), none] (by decide) rfl (rfl) rfl rfl (fun X hR => ?_)
  refine il1 (pc := 0) dX9_seed_0 ?_
  refine g_ifge 7 (pc := 1) dX9_seed_1 (by decide) (fun c1 => ?_) (fun c1 => ?_)
  · skip
    refine al0 (pc := 7) dX9_seed_7 ?_
    refine gf_X9_7 (pc := 8) hm.o9 hm.r288 dX9_seed_8 ?_
    refine g_sipush (pc := 11) dX9_seed_11 ks193 ?_
    refine g_iald (pc := 14) 193 hm.a_nw (by decide) (rfl) (by decide) dX9_seed_14 ?_
    refine is2 (pc := 15) dX9_seed_15 rfl ?_
    refine al0 (pc := 16) dX9_seed_16 ?_
    refine gf_X9_7 (pc := 17) hm.o9 hm.r288 dX9_seed_17 ?_
    refine g_sipush (pc := 20) dX9_seed_20 ks193 ?_
    refine il1 (pc := 23) dX9_seed_23 ?_
    refine g_iast (pc := 24) 193 hm.a_nw (by decide) (rfl) (by decide) dX9_seed_24 ?_
    refine il2 (pc := 25) dX9_seed_25 ?_
    exact retI (pc := 26) hR dX9_seed_26 (by rw [rseR, if_pos c1]) (by rw [rseD, if_pos c1])
  · skip
    refine g_ldc (pc := 4) dX9_seed_4 wk_X9_145 ?_
    exact retI (pc := 6) hR dX9_seed_6 (by rw [rseR, if_neg c1]) (by rw [rseD, if_neg c1])
theorem c_X9_cost {l : Launch} {G : mG} {Z : mZ} {d : mD} {m nw od fd tp rd ah kp ka ln sz it mv : Nat} {b mo : Int32} (hm : mdS Z m nw od fd tp rd ah kp ka ln sz it mv) : CtI l G yX9_cost cX9_cost 3 .int 4 97 [.ref m, .int b, .int mo] Z d (rcsR (gA d nw 192) (gA d nw) (fun k => gA d nw (96 + k)) b mo) d := by
  refine enterI RX9 0 [some (.ref m), some (.int b), some (.int mo)] (by decide) rfl (rfl) rfl rfl (fun X hR => ?_)
  refine il1 (pc := 0) dX9_cost_0 ?_
  refine cl_X9_210 (pc := 1) (c_X9_isBlock) (by decide) ⟨Nat.zero_le _, Nat.zero_le _⟩ (Nat.le_of_ble_eq_true rfl) dX9_cost_1 ?_
  refine g_ifeq 32 (pc := 4) dX9_cost_4 (by decide) (fun c4 => ?_) (fun c4 => ?_)
  · skip
    (try simp only [mB_eq0, Decidable.not_not] at c4)
    refine g_ldc (pc := 32) dX9_cost_32 wk_X9_145 ?_
    exact retI (pc := 34) hR dX9_cost_34 (by rw [rcsR, if_neg]; intro h9; simp [h9] at *) (rfl)
  · skip
    (try simp only [mB_eq0, Decidable.not_not] at c4)
    refine il2 (pc := 7) dX9_cost_7 ?_
    refine g_i2l (pc := 8) dX9_cost_8 ?_
    refine cl_X9_214 (pc := 9) (c_X9_isMove) (by decide) ⟨Nat.zero_le _, Nat.zero_le _⟩ (Nat.le_of_ble_eq_true rfl) dX9_cost_9 ?_
    rw [inI mo (0) 48 (by decide) (by decide)]
    refine g_ifeq 32 (pc := 12) dX9_cost_12 (by decide) (fun c12 => ?_) (fun c12 => ?_)
    · skip
      (try simp only [mB_eq0, Decidable.not_not] at c12)
      refine g_ldc (pc := 32) dX9_cost_32 wk_X9_145 ?_
      exact retI (pc := 34) hR dX9_cost_34 (by rw [rcsR, if_neg]; intro h9; simp [h9] at *) (rfl)
    · skip
      (try simp only [mB_eq0, Decidable.not_not] at c12)
      refine al0 (pc := 15) dX9_cost_15 ?_
      refine al0 (pc := 16) dX9_cost_16 ?_
      refine gf_X9_7 (pc := 17) hm.o9 hm.r288 dX9_cost_17 ?_
      refine g_sipush (pc := 20) dX9_cost_20 ks192 ?_
      refine g_iald (pc := 23) 192 hm.a_nw (by decide) (rfl) (by decide) dX9_cost_23 ?_
      refine il1 (pc := 24) dX9_cost_24 ?_
      refine il2 (pc := 25) dX9_cost_25 ?_
      refine cl_X9_87 (pc := 26) (c_X9_costBy hm) hm.o9 (by decide) ⟨Nat.zero_le _, Nat.zero_le _⟩ (Nat.le_of_ble_eq_true rfl) dX9_cost_26 ?_
      refine g_goto 34 (pc := 29) dX9_cost_29 (by decide) ?_
      exact retI (pc := 34) hR dX9_cost_34 (by rw [rcsR, if_pos ⟨c4, c12⟩]) (rfl)
theorem c_X9_rebuilt {l : Launch} {G : mG} {Z : mZ} {d : mD} {m nw od fd tp rd ah kp ka ln sz it mv : Nat} {c r : Int32} (hm : mdS Z m nw od fd tp rd ah kp ka ln sz it mv) : CtI l G yX9_rebuilt cX9_rebuilt 3 .int 7 165 [.ref m, .int c, .int r] Z d (rrbR (layL (gA d od) (gA d nw 192) (gA d nw) (fun k => gA d nw (96 + k)) 6 0 (gA d fd)) (gA d nw) c r) (rrbD d fd (layL (gA d od) (gA d nw 192) (gA d nw) (fun k => gA d nw (96 + k)) 6 0 (gA d fd)) c r) := by
  refine enterI RX9 0 [some (.ref m), some (.int c), some (.int r)] (by decide) rfl (rfl) rfl rfl (fun X hR => ?_)
  refine il1 (pc := 0) dX9_rebuilt_0 ?_
  refine g_i2l (pc := 1) dX9_rebuilt_1 ?_
  refine g_lconst (pc := 2) dX9_rebuilt_2 kl0 ?_
  refine g_ldc2 (pc := 3) dX9_rebuilt_3 wk_X9_189 ?_
  refine cl_X9_70 (pc := 6) (c_X9_in) (by decide) ⟨Nat.zero_le _, Nat.zero_le _⟩ (Nat.le_of_ble_eq_true rfl) dX9_rebuilt_6 ?_
  rw [inI c (0) 11 (by decide) (by decide)]
  refine g_ifeq 24 (pc := 9) dX9_rebuilt_9 (by decide) (fun c9 => ?_) (fun c9 => ?_)
  · skip
    (try simp only [mB_eq0, Decidable.not_not] at c9)
    refine g_ldc (pc := 24) dX9_rebuilt_24 wk_X9_145 ?_
    exact retI (pc := 26) hR dX9_rebuilt_26 (by rw [rrbR, if_neg]; intro h9; simp [h9] at *) (by rw [rrbD, if_neg]; intro h9; simp [h9] at *)
  · skip
    (try simp only [mB_eq0, Decidable.not_not] at c9)
    refine il2 (pc := 12) dX9_rebuilt_12 ?_
    refine g_i2l (pc := 13) dX9_rebuilt_13 ?_
    refine g_lconst (pc := 14) dX9_rebuilt_14 kl0 ?_
    refine g_ldc2 (pc := 15) dX9_rebuilt_15 wk_X9_191 ?_
    refine cl_X9_70 (pc := 18) (c_X9_in) (by decide) ⟨Nat.zero_le _, Nat.zero_le _⟩ (Nat.le_of_ble_eq_true rfl) dX9_rebuilt_18 ?_
    rw [inI r (0) 7 (by decide) (by decide)]
    refine g_ifne 27 (pc := 21) dX9_rebuilt_21 (by decide) (fun c21 => ?_) (fun c21 => ?_)
    · skip
      (try simp only [mB_eq0, Decidable.not_not] at c21)
      refine al0 (pc := 27) dX9_rebuilt_27 ?_
      refine cl_X9_126 (pc := 28) (c_X9_lays hm) hm.o9 (by decide) ⟨Nat.zero_le _, Nat.zero_le _⟩ (Nat.le_of_ble_eq_true rfl) dX9_rebuilt_28 ?_
      refine al0 (pc := 31) dX9_rebuilt_31 ?_
      refine il1 (pc := 32) dX9_rebuilt_32 ?_
      refine il2 (pc := 33) dX9_rebuilt_33 ?_
      have h1 := wth_nI 11 (by decide) c9
      have h2 := wth_nI 7 (by decide) c21
      rw [h1.1, h2.1]
      refine cl_X9_135 (pc := 34) (c_X9_rebuiltAt (a := tN c) (b := tN r) hm (by omega) (by omega)) hm.o9 (by decide) ⟨Nat.zero_le _, Nat.zero_le _⟩ (Nat.le_of_ble_eq_true rfl) dX9_rebuilt_34 ?_
      rw [gA_tA, if_pos rfl, gA_tA, if_neg hm.n_nw_fd]
      exact retI (pc := 37) hR dX9_rebuilt_37 (by rw [rrbR, if_pos ⟨c9, c21⟩]) (by rw [rrbD, if_pos ⟨c9, c21⟩])
    · skip
      (try simp only [mB_eq0, Decidable.not_not] at c21)
      refine g_ldc (pc := 24) dX9_rebuilt_24 wk_X9_145 ?_
      exact retI (pc := 26) hR dX9_rebuilt_26 (by rw [rrbR, if_neg]; intro h9; simp [h9] at *) (by rw [rrbD, if_neg]; intro h9; simp [h9] at *)
theorem c_X9_image {l : Launch} {G : mG} {Z : mZ} {d : mD} {m nw od fd tp rd ah kp ka ln sz it mv : Nat} (hm : mdS Z m nw od fd tp rd ah kp ka ln sz it mv) : CtI l G yX9_image cX9_image 2 .int 0 0 [.ref m] Z d 1 (rimD d m nw ah kp ka) := by
  refine enterI RX9 1 [some (.ref m), none] (by decide) rfl (rfl) rfl rfl (fun X hR => ?_)
  refine g_iconst (pc := 0) dX9_image_0 kc0 ?_
  refine is1 (pc := 1) dX9_image_1 rfl ?_
  have L2 : ∀ (n i : Nat), i + n = 194 → mGo l G (mRm 0 0) X RX9 cX9_image 2 0 0 Z 2 [some (.ref m), some (.int (nI i))] [] (tA d kp (cpF (gA d kp) (gA d nw) 0 i)) := by
    intro n; induction n with
    | zero =>
      intro i  hin2 
      obtain rfl : i = 194 := by omega
      refine il1 (pc := 2) dX9_image_2 ?_
      refine g_sipush (pc := 3) dX9_image_3 ks194 ?_
      refine g_icmpge 27 (pc := 6) dX9_image_6 (by decide) (fun c6 => ?_) (fun c6 => absurd (nI_le (a := 194) (by omega) (by omega)) c6)
      refine g_iconst (pc := 27) dX9_image_27 kc0 ?_
      refine is1 (pc := 28) dX9_image_28 rfl ?_
      have L29 : ∀ (n i : Nat), i + n = 1552 → mGo l G (mRm 0 0) X RX9 cX9_image 2 0 0 Z 29 [some (.ref m), some (.int (nI i))] [] (tA (tA d kp (cpF (gA d kp) (gA d nw) 0 194)) ka (cpF (gA d ka) (gA d ah) 0 i)) := by
        intro n; induction n with
        | zero =>
          intro i  hin29 
          obtain rfl : i = 1552 := by omega
          refine il1 (pc := 29) dX9_image_29 ?_
          refine g_sipush (pc := 30) dX9_image_30 ks1552 ?_
          refine g_icmpge 54 (pc := 33) dX9_image_33 (by decide) (fun c33 => ?_) (fun c33 => absurd (nI_le (a := 1552) (by omega) (by omega)) c33)
          refine al0 (pc := 54) dX9_image_54 ?_
          refine al0 (pc := 55) dX9_image_55 ?_
          refine gf_X9_166 (pc := 56) hm.o9 dX9_image_56 ?_
          refine pf_X9_34 (pc := 59) hm.o9 dX9_image_59 ?_
          refine g_iconst (pc := 62) dX9_image_62 kc1 ?_
          exact retI (pc := 63) hR dX9_image_63 (rfl) (rfl)
        | succ n ih29 =>
          intro i  hin29 
          refine il1 (pc := 29) dX9_image_29 ?_
          refine g_sipush (pc := 30) dX9_image_30 ks1552 ?_
          refine g_icmpge 54 (pc := 33) dX9_image_33 (by decide) (fun c33 => absurd c33 (nI_ge (b := 1552) (by omega) (by omega))) (fun c33 => ?_)
          refine al0 (pc := 36) dX9_image_36 ?_
          refine gf_X9_31 (pc := 37) hm.o9 hm.r301 dX9_image_37 ?_
          refine il1 (pc := 40) dX9_image_40 ?_
          refine al0 (pc := 41) dX9_image_41 ?_
          refine gf_X9_25 (pc := 42) hm.o9 hm.r298 dX9_image_42 ?_
          refine il1 (pc := 45) dX9_image_45 ?_
          refine g_iald (pc := 46) i hm.a_ah (by omega) (rfl) (by decide) dX9_image_46 ?_
          rw [gA_tA, if_neg hm.n_ah_ka, gA_tA, if_neg hm.n_ah_kp]
          refine g_iast (pc := 47) i hm.a_ka (by omega) (rfl) (by decide) dX9_image_47 ?_
          rw [gA_tA, if_pos rfl, tA_tA, cpF_s0]
          refine ic1 (pc := 48) dX9_image_48 kc1 rfl ?_
          refine g_goto 29 (pc := 51) dX9_image_51 (by decide) ?_
          rw [nI_1]
          exact ih29 (i + 1) (by omega)
      have q9 := L29 1552 0 (by omega)
      rw [cpF_0, show tA (tA d kp (cpF (gA d kp) (gA d nw) 0 194)) ka (gA d ka) = (tA d kp (cpF (gA d kp) (gA d nw) 0 194)) by rw [show gA d ka = gA (tA d kp (cpF (gA d kp) (gA d nw) 0 194)) ka by rw [gA_tA, if_neg hm.n_ka_kp], tA_self]] at q9
      exact q9
    | succ n ih2 =>
      intro i  hin2 
      refine il1 (pc := 2) dX9_image_2 ?_
      refine g_sipush (pc := 3) dX9_image_3 ks194 ?_
      refine g_icmpge 27 (pc := 6) dX9_image_6 (by decide) (fun c6 => absurd c6 (nI_ge (b := 194) (by omega) (by omega))) (fun c6 => ?_)
      refine al0 (pc := 9) dX9_image_9 ?_
      refine gf_X9_28 (pc := 10) hm.o9 hm.r300 dX9_image_10 ?_
      refine il1 (pc := 13) dX9_image_13 ?_
      refine al0 (pc := 14) dX9_image_14 ?_
      refine gf_X9_7 (pc := 15) hm.o9 hm.r288 dX9_image_15 ?_
      refine il1 (pc := 18) dX9_image_18 ?_
      refine g_iald (pc := 19) i hm.a_nw (by omega) (rfl) (by decide) dX9_image_19 ?_
      rw [gA_tA, if_neg hm.n_nw_kp]
      refine g_iast (pc := 20) i hm.a_kp (by omega) (rfl) (by decide) dX9_image_20 ?_
      rw [gA_tA, if_pos rfl, tA_tA, cpF_s0]
      refine ic1 (pc := 21) dX9_image_21 kc1 rfl ?_
      refine g_goto 2 (pc := 24) dX9_image_24 (by decide) ?_
      rw [nI_1]
      exact ih2 (i + 1) (by omega)
  have q9 := L2 194 0 (by omega)
  rw [cpF_0, tA_self] at q9
  exact q9
theorem c_X9_restore {l : Launch} {G : mG} {Z : mZ} {d : mD} {m nw od fd tp rd ah kp ka ln sz it mv : Nat} (hm : mdS Z m nw od fd tp rd ah kp ka ln sz it mv) : CtI l G yX9_restore cX9_restore 2 .int 0 0 [.ref m] Z d (rreR (gI d 302 m)) (rreD d m nw ah kp ka) := by
  refine enterI RX9 1 [some (.ref m), none] (by decide) rfl (rfl) rfl rfl (fun X hR => ?_)
  refine al0 (pc := 0) dX9_restore_0 ?_
  refine gf_X9_34 (pc := 1) hm.o9 dX9_restore_1 ?_
  refine g_ifge 10 (pc := 4) dX9_restore_4 (by decide) (fun c4 => ?_) (fun c4 => ?_)
  · skip
    refine g_iconst (pc := 10) dX9_restore_10 kc0 ?_
    refine is1 (pc := 11) dX9_restore_11 rfl ?_
    have L12 : ∀ (n i : Nat), i + n = 194 → mGo l G (mRm 0 0) X RX9 cX9_restore 2 0 0 Z 12 [some (.ref m), some (.int (nI i))] [] (tA d nw (cpF (gA d nw) (gA d kp) 0 i)) := by
      intro n; induction n with
      | zero =>
        intro i  hin12 
        obtain rfl : i = 194 := by omega
        refine il1 (pc := 12) dX9_restore_12 ?_
        refine g_sipush (pc := 13) dX9_restore_13 ks194 ?_
        refine g_icmpge 37 (pc := 16) dX9_restore_16 (by decide) (fun c16 => ?_) (fun c16 => absurd (nI_le (a := 194) (by omega) (by omega)) c16)
        refine g_iconst (pc := 37) dX9_restore_37 kc0 ?_
        refine is1 (pc := 38) dX9_restore_38 rfl ?_
        have L39 : ∀ (n i : Nat), i + n = 1552 → mGo l G (mRm 0 0) X RX9 cX9_restore 2 0 0 Z 39 [some (.ref m), some (.int (nI i))] [] (tA (tA d nw (cpF (gA d nw) (gA d kp) 0 194)) ah (cpF (gA d ah) (gA d ka) 0 i)) := by
          intro n; induction n with
          | zero =>
            intro i  hin39 
            obtain rfl : i = 1552 := by omega
            refine il1 (pc := 39) dX9_restore_39 ?_
            refine g_sipush (pc := 40) dX9_restore_40 ks1552 ?_
            refine g_icmpge 64 (pc := 43) dX9_restore_43 (by decide) (fun c43 => ?_) (fun c43 => absurd (nI_le (a := 1552) (by omega) (by omega)) c43)
            refine al0 (pc := 64) dX9_restore_64 ?_
            refine al0 (pc := 65) dX9_restore_65 ?_
            refine gf_X9_34 (pc := 66) hm.o9 dX9_restore_66 ?_
            refine pf_X9_166 (pc := 69) hm.o9 dX9_restore_69 ?_
            refine g_iconst (pc := 72) dX9_restore_72 kc1 ?_
            exact retI (pc := 73) hR dX9_restore_73 (by rw [rreR, if_pos c4]) (by rw [rreD, if_pos c4]; rfl)
          | succ n ih39 =>
            intro i  hin39 
            refine il1 (pc := 39) dX9_restore_39 ?_
            refine g_sipush (pc := 40) dX9_restore_40 ks1552 ?_
            refine g_icmpge 64 (pc := 43) dX9_restore_43 (by decide) (fun c43 => absurd c43 (nI_ge (b := 1552) (by omega) (by omega))) (fun c43 => ?_)
            refine al0 (pc := 46) dX9_restore_46 ?_
            refine gf_X9_25 (pc := 47) hm.o9 hm.r298 dX9_restore_47 ?_
            refine il1 (pc := 50) dX9_restore_50 ?_
            refine al0 (pc := 51) dX9_restore_51 ?_
            refine gf_X9_31 (pc := 52) hm.o9 hm.r301 dX9_restore_52 ?_
            refine il1 (pc := 55) dX9_restore_55 ?_
            refine g_iald (pc := 56) i hm.a_ka (by omega) (rfl) (by decide) dX9_restore_56 ?_
            rw [gA_tA, if_neg hm.n_ka_ah, gA_tA, if_neg hm.n_ka_nw]
            refine g_iast (pc := 57) i hm.a_ah (by omega) (rfl) (by decide) dX9_restore_57 ?_
            rw [gA_tA, if_pos rfl, tA_tA, cpF_s0]
            refine ic1 (pc := 58) dX9_restore_58 kc1 rfl ?_
            refine g_goto 39 (pc := 61) dX9_restore_61 (by decide) ?_
            rw [nI_1]
            exact ih39 (i + 1) (by omega)
        have q9 := L39 1552 0 (by omega)
        rw [cpF_0, show tA (tA d nw (cpF (gA d nw) (gA d kp) 0 194)) ah (gA d ah) = (tA d nw (cpF (gA d nw) (gA d kp) 0 194)) by rw [show gA d ah = gA (tA d nw (cpF (gA d nw) (gA d kp) 0 194)) ah by rw [gA_tA, if_neg hm.n_ah_nw], tA_self]] at q9
        exact q9
      | succ n ih12 =>
        intro i  hin12 
        refine il1 (pc := 12) dX9_restore_12 ?_
        refine g_sipush (pc := 13) dX9_restore_13 ks194 ?_
        refine g_icmpge 37 (pc := 16) dX9_restore_16 (by decide) (fun c16 => absurd c16 (nI_ge (b := 194) (by omega) (by omega))) (fun c16 => ?_)
        refine al0 (pc := 19) dX9_restore_19 ?_
        refine gf_X9_7 (pc := 20) hm.o9 hm.r288 dX9_restore_20 ?_
        refine il1 (pc := 23) dX9_restore_23 ?_
        refine al0 (pc := 24) dX9_restore_24 ?_
        refine gf_X9_28 (pc := 25) hm.o9 hm.r300 dX9_restore_25 ?_
        refine il1 (pc := 28) dX9_restore_28 ?_
        refine g_iald (pc := 29) i hm.a_kp (by omega) (rfl) (by decide) dX9_restore_29 ?_
        rw [gA_tA, if_neg hm.n_kp_nw]
        refine g_iast (pc := 30) i hm.a_nw (by omega) (rfl) (by decide) dX9_restore_30 ?_
        rw [gA_tA, if_pos rfl, tA_tA, cpF_s0]
        refine ic1 (pc := 31) dX9_restore_31 kc1 rfl ?_
        refine g_goto 12 (pc := 34) dX9_restore_34 (by decide) ?_
        rw [nI_1]
        exact ih12 (i + 1) (by omega)
    have q9 := L12 194 0 (by omega)
    rw [cpF_0, tA_self] at q9
    exact q9
  · skip
    refine g_ldc (pc := 7) dX9_restore_7 wk_X9_108 ?_
    exact retI (pc := 9) hR dX9_restore_9 (by rw [rreR, if_neg c4]) (by rw [rreD, if_neg c4])
theorem c_X9_of {l : Launch} {G : mG} {Z : mZ} {d : mD} {m nw od fd tp rd ah kp ka ln sz it mv : Nat} {b w : Int32} (hm : mdS Z m nw od fd tp rd ah kp ka ln sz it mv) : CtI l G yX9_of cX9_of 3 .int 7 171 [.ref m, .int b, .int w] Z d (rofR (gA d od) (gA d nw) (layL (gA d od) (gA d nw 192) (gA d nw) (fun k => gA d nw (96 + k)) 6 0 (gA d fd)) (gA d nw 192) b w) (rofD d m fd (trQ (gA d od) (gA d nw 192) (gA d nw) (fun k => gA d nw (96 + k)) b) (layL (gA d od) (gA d nw 192) (gA d nw) (fun k => gA d nw (96 + k)) 6 0 (gA d fd)) b w) := by
  refine enterI RX9 0 [some (.ref m), some (.int b), some (.int w)] (by decide) rfl (rfl) rfl rfl (fun X hR => ?_)
  refine il1 (pc := 0) dX9_of_0 ?_
  refine cl_X9_210 (pc := 1) (c_X9_isBlock) (by decide) ⟨Nat.zero_le _, Nat.zero_le _⟩ (Nat.le_of_ble_eq_true rfl) dX9_of_1 ?_
  refine g_ifne 10 (pc := 4) dX9_of_4 (by decide) (fun c4 => ?_) (fun c4 => ?_)
  · skip
    (try simp only [mB_eq0, Decidable.not_not] at c4)
    refine il2 (pc := 10) dX9_of_10 ?_
    by_cases c11_0 : w = 0
    · skip
      refine g_tblIn (pc := 11) 64 dX9_of_11 (by rw [c11_0]; decide) (by rw [c11_0]; decide) (by rw [c11_0]; rfl) (by decide) ?_
      refine al0 (pc := 64) dX9_of_64 ?_
      refine il1 (pc := 65) dX9_of_65 ?_
      refine cl_X9_116 (pc := 66) (c_X9_best hm) hm.o9 (by decide) ⟨Nat.zero_le _, Nat.zero_le _⟩ (Nat.le_of_ble_eq_true rfl) dX9_of_66 ?_
      exact retI (pc := 69) hR dX9_of_69 (by simp [rofR, c4, c11_0]) (by simp [rofD, c4, c11_0])
    by_cases c11_1 : w = 1
    · skip
      refine g_tblIn (pc := 11) 70 dX9_of_11 (by rw [c11_1]; decide) (by rw [c11_1]; decide) (by rw [c11_1]; rfl) (by decide) ?_
      refine al0 (pc := 70) dX9_of_70 ?_
      refine al0 (pc := 71) dX9_of_71 ?_
      refine gf_X9_7 (pc := 72) hm.o9 hm.r288 dX9_of_72 ?_
      refine g_sipush (pc := 75) dX9_of_75 ks192 ?_
      refine g_iald (pc := 78) 192 hm.a_nw (by decide) (rfl) (by decide) dX9_of_78 ?_
      refine il1 (pc := 79) dX9_of_79 ?_
      refine al0 (pc := 80) dX9_of_80 ?_
      refine il1 (pc := 81) dX9_of_81 ?_
      refine cl_X9_116 (pc := 82) (c_X9_best hm) hm.o9 (by decide) ⟨Nat.zero_le _, Nat.zero_le _⟩ (Nat.le_of_ble_eq_true rfl) dX9_of_82 ?_
      refine cl_X9_87 (pc := 85) (c_X9_costBy hm) hm.o9 (by decide) ⟨Nat.zero_le _, Nat.zero_le _⟩ (Nat.le_of_ble_eq_true rfl) dX9_of_85 ?_
      exact retI (pc := 88) hR dX9_of_88 (by simp [rofR, c4, c11_1]) (by simp [rofD, c4, c11_1])
    by_cases c11_2 : w = 2
    · skip
      refine g_tblIn (pc := 11) 89 dX9_of_11 (by rw [c11_2]; decide) (by rw [c11_2]; decide) (by rw [c11_2]; rfl) (by decide) ?_
      refine al0 (pc := 89) dX9_of_89 ?_
      refine il1 (pc := 90) dX9_of_90 ?_
      refine cl_X9_218 (pc := 91) (c_X9_tries hm) hm.o9 (by decide) ⟨Nat.zero_le _, Nat.zero_le _⟩ (Nat.le_of_ble_eq_true rfl) dX9_of_91 ?_
      refine al0 (pc := 94) dX9_of_94 ?_
      refine gf_X9_93 (pc := 95) hm.o9 dX9_of_95 ?_
      rw [trT_290]
      exact retI (pc := 98) hR dX9_of_98 (by simp [rofR, c4, c11_2]) (by simp [rofD, c4, c11_2])
    by_cases c11_3 : w = 3
    · skip
      refine g_tblIn (pc := 11) 99 dX9_of_11 (by rw [c11_3]; decide) (by rw [c11_3]; decide) (by rw [c11_3]; rfl) (by decide) ?_
      refine al0 (pc := 99) dX9_of_99 ?_
      refine il1 (pc := 100) dX9_of_100 ?_
      refine cl_X9_218 (pc := 101) (c_X9_tries hm) hm.o9 (by decide) ⟨Nat.zero_le _, Nat.zero_le _⟩ (Nat.le_of_ble_eq_true rfl) dX9_of_101 ?_
      refine al0 (pc := 104) dX9_of_104 ?_
      refine gf_X9_96 (pc := 105) hm.o9 dX9_of_105 ?_
      rw [trT_291]
      exact retI (pc := 108) hR dX9_of_108 (by simp [rofR, c4, c11_3]) (by simp [rofD, c4, c11_3])
    by_cases c11_4 : w = 4
    · skip
      refine g_tblIn (pc := 11) 109 dX9_of_11 (by rw [c11_4]; decide) (by rw [c11_4]; decide) (by rw [c11_4]; rfl) (by decide) ?_
      refine al0 (pc := 109) dX9_of_109 ?_
      refine il1 (pc := 110) dX9_of_110 ?_
      refine cl_X9_218 (pc := 111) (c_X9_tries hm) hm.o9 (by decide) ⟨Nat.zero_le _, Nat.zero_le _⟩ (Nat.le_of_ble_eq_true rfl) dX9_of_111 ?_
      refine al0 (pc := 114) dX9_of_114 ?_
      refine gf_X9_99 (pc := 115) hm.o9 dX9_of_115 ?_
      rw [trT_292]
      exact retI (pc := 118) hR dX9_of_118 (by simp [rofR, c4, c11_4]) (by simp [rofD, c4, c11_4])
    by_cases c11_5 : w = 5
    · skip
      refine g_tblIn (pc := 11) 119 dX9_of_11 (by rw [c11_5]; decide) (by rw [c11_5]; decide) (by rw [c11_5]; rfl) (by decide) ?_
      refine al0 (pc := 119) dX9_of_119 ?_
      refine il1 (pc := 120) dX9_of_120 ?_
      refine cl_X9_146 (pc := 121) (c_X9_quick hm) hm.o9 (by decide) ⟨Nat.zero_le _, Nat.zero_le _⟩ (Nat.le_of_ble_eq_true rfl) dX9_of_121 ?_
      exact retI (pc := 124) hR dX9_of_124 (by simp [rofR, c4, c11_5]) (by simp [rofD, c4, c11_5])
    by_cases c11_6 : w = 6
    · skip
      refine g_tblIn (pc := 11) 125 dX9_of_11 (by rw [c11_6]; decide) (by rw [c11_6]; decide) (by rw [c11_6]; rfl) (by decide) ?_
      refine al0 (pc := 125) dX9_of_125 ?_
      refine il1 (pc := 126) dX9_of_126 ?_
      refine il2 (pc := 127) dX9_of_127 ?_
      refine g_bipush (pc := 128) dX9_of_128 kb6 ?_
      refine g_icmpne 137 (pc := 130) dX9_of_130 (by decide) (fun c130 => absurd c11_6 c130) (fun c130 => ?_)
      refine g_iconst (pc := 133) dX9_of_133 kc1 ?_
      refine g_goto 138 (pc := 134) dX9_of_134 (by decide) ?_
      refine cl_X9_222 (pc := 138) (c_X9_half hm) hm.o9 (by decide) ⟨Nat.zero_le _, Nat.zero_le _⟩ (Nat.le_of_ble_eq_true rfl) dX9_of_138 ?_
      rw [rhR, if_neg (by decide)]
      exact retI (pc := 141) hR dX9_of_141 (by simp [rofR, c4, c11_6, c130]) (by simp [rofD, c4, c11_6, c130])
    by_cases c11_7 : w = 7
    · skip
      refine g_tblIn (pc := 11) 125 dX9_of_11 (by rw [c11_7]; decide) (by rw [c11_7]; decide) (by rw [c11_7]; rfl) (by decide) ?_
      refine al0 (pc := 125) dX9_of_125 ?_
      refine il1 (pc := 126) dX9_of_126 ?_
      refine il2 (pc := 127) dX9_of_127 ?_
      refine g_bipush (pc := 128) dX9_of_128 kb6 ?_
      refine g_icmpne 137 (pc := 130) dX9_of_130 (by decide) (fun c130 => ?_) (fun c130 => absurd c130 c11_6)
      refine g_iconst (pc := 137) dX9_of_137 kc0 ?_
      refine cl_X9_222 (pc := 138) (c_X9_half hm) hm.o9 (by decide) ⟨Nat.zero_le _, Nat.zero_le _⟩ (Nat.le_of_ble_eq_true rfl) dX9_of_138 ?_
      rw [rhR, if_pos rfl]
      exact retI (pc := 141) hR dX9_of_141 (by simp [rofR, c4, c11_7, c130]) (by simp [rofD, c4, c11_7, c130])
    by_cases c11_8 : w = 8
    · skip
      refine g_tblIn (pc := 11) 142 dX9_of_11 (by rw [c11_8]; decide) (by rw [c11_8]; decide) (by rw [c11_8]; rfl) (by decide) ?_
      refine al0 (pc := 142) dX9_of_142 ?_
      refine cl_X9_126 (pc := 143) (c_X9_lays hm) hm.o9 (by decide) ⟨Nat.zero_le _, Nat.zero_le _⟩ (Nat.le_of_ble_eq_true rfl) dX9_of_143 ?_
      refine al0 (pc := 146) dX9_of_146 ?_
      refine il1 (pc := 147) dX9_of_147 ?_
      refine il2 (pc := 148) dX9_of_148 ?_
      refine g_bipush (pc := 149) dX9_of_149 kb8 ?_
      refine g_icmpne 158 (pc := 151) dX9_of_151 (by decide) (fun c151 => absurd c11_8 c151) (fun c151 => ?_)
      refine g_iconst (pc := 154) dX9_of_154 kc1 ?_
      refine g_goto 159 (pc := 155) dX9_of_155 (by decide) ?_
      have h1 := wth_nI 5 (by decide) c4
      rw [h1.1]
      refine cl_X9_129 (pc := 159) (c_X9_foretold (b := tN b) hm (by omega)) hm.o9 (by decide) ⟨Nat.zero_le _, Nat.zero_le _⟩ (Nat.le_of_ble_eq_true rfl) dX9_of_159 ?_
      rw [gA_tA, if_pos rfl]
      exact retI (pc := 162) hR dX9_of_162 (by simp [rofR, c4, c11_8, c151]) (by simp [rofD, c4, c11_8, c151])
    by_cases c11_9 : w = 9
    · skip
      refine g_tblIn (pc := 11) 142 dX9_of_11 (by rw [c11_9]; decide) (by rw [c11_9]; decide) (by rw [c11_9]; rfl) (by decide) ?_
      refine al0 (pc := 142) dX9_of_142 ?_
      refine cl_X9_126 (pc := 143) (c_X9_lays hm) hm.o9 (by decide) ⟨Nat.zero_le _, Nat.zero_le _⟩ (Nat.le_of_ble_eq_true rfl) dX9_of_143 ?_
      refine al0 (pc := 146) dX9_of_146 ?_
      refine il1 (pc := 147) dX9_of_147 ?_
      refine il2 (pc := 148) dX9_of_148 ?_
      refine g_bipush (pc := 149) dX9_of_149 kb8 ?_
      refine g_icmpne 158 (pc := 151) dX9_of_151 (by decide) (fun c151 => ?_) (fun c151 => absurd c151 c11_8)
      refine g_iconst (pc := 158) dX9_of_158 kc0 ?_
      have h1 := wth_nI 5 (by decide) c4
      rw [h1.1]
      refine cl_X9_129 (pc := 159) (c_X9_foretold (b := tN b) hm (by omega)) hm.o9 (by decide) ⟨Nat.zero_le _, Nat.zero_le _⟩ (Nat.le_of_ble_eq_true rfl) dX9_of_159 ?_
      rw [gA_tA, if_pos rfl]
      exact retI (pc := 162) hR dX9_of_162 (by simp [rofR, c4, c11_9, c151]) (by simp [rofD, c4, c11_9, c151])
    refine g_tblOut (pc := 11) 163 dX9_of_11 (by have q0 := lv_neT c11_0 (k := 0) (a := 0) (by decide); have q1 := lv_neT c11_1 (k := 1) (a := 1) (by decide); have q2 := lv_neT c11_2 (k := 2) (a := 2) (by decide); have q3 := lv_neT c11_3 (k := 3) (a := 3) (by decide); have q4 := lv_neT c11_4 (k := 4) (a := 4) (by decide); have q5 := lv_neT c11_5 (k := 5) (a := 5) (by decide); have q6 := lv_neT c11_6 (k := 6) (a := 6) (by decide); have q7 := lv_neT c11_7 (k := 7) (a := 7) (by decide); have q8 := lv_neT c11_8 (k := 8) (a := 8) (by decide); have q9 := lv_neT c11_9 (k := 9) (a := 9) (by decide); omega) (by decide) ?_
    refine g_ldc (pc := 163) dX9_of_163 wk_X9_145 ?_
    exact retI (pc := 165) hR dX9_of_165 (by simp [rofR, c4, c11_0, c11_1, c11_2, c11_3, c11_4, c11_5, c11_6, c11_7, c11_8, c11_9]) (by simp [rofD, c4, c11_0, c11_1, c11_2, c11_3, c11_4, c11_5, c11_6, c11_7, c11_8, c11_9])
  · skip
    (try simp only [mB_eq0, Decidable.not_not] at c4)
    refine g_ldc (pc := 7) dX9_of_7 wk_X9_145 ?_
    exact retI (pc := 9) hR dX9_of_9 (by rw [rofR, if_neg]; intro h9; simp [h9] at *) (by rw [rofD, if_neg]; intro h9; simp [h9] at *)
