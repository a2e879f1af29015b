theorem cpy0 (f g : Nat → Int32) {j : Nat} (hj : j < 96) : va_cpy f g 0 0 96 j = f j := by
  unfold va_cpy
  rw [if_pos (by omega)]
  congr 1; omega
section
variable {Z Z2 : mZ} {d d1 d2 e2 : mD} {x st kp tp sr ha fi sp sh sc pa kc kq le dt mo ne m nw od fd tr rd ah kr ka ln sz it mv : Nat}
theorem sR_n_ne {s : Nat} {f w : Nat → Int32} (hi : mInj Z le dt mo ne) (hc : scv Z sc) (hs : scv Z s) (hn : s ≠ sc) (hr : sR Z d s w) : sR Z (tA d (nA Z sc) f) s w := by
  refine ⟨?_, ?_, hr.2.2.1, hr.2.2.2⟩
  · rw [gA_tA, if_neg (hi.2.2.1 s sc hs hc)]; exact hr.1
  · rw [gA_tA, if_neg (fun e => hn (hi.2.1 _ _ hs hc e))]; exact hr.2.1
theorem sR_o_ne {s : Nat} {f w : Nat → Int32} (hi : mInj Z le dt mo ne) (hc : scv Z sc) (hs : scv Z s) (hn : s ≠ sc) (hr : sR Z d s w) : sR Z (tA d (oA Z sc) f) s w := by
  refine ⟨?_, ?_, hr.2.2.1, hr.2.2.2⟩
  · rw [gA_tA, if_neg (fun e => hn (hi.1 _ _ hs hc e))]; exact hr.1
  · rw [gA_tA, if_neg (hi.2.2.1 sc s hc hs).symm]; exact hr.2.1
theorem sR_i_ne {s f : Nat} {v : Int32} {w : Nat → Int32} (hn : s ≠ sc) (hr : sR Z d s w) : sR Z (sI d f sc v) s w := by
  refine ⟨hr.1, hr.2.1, ?_, ?_⟩
  · rw [gI_sI, if_neg (fun e => hn e.2)]; exact hr.2.2.1
  · rw [gI_sI, if_neg (fun e => hn e.2)]; exact hr.2.2.2
theorem CK_agM {k : Nat} (h : agM m nw od tr ah kr ka ln sz it d2 e2) (hr : CK Z d1 d2 x st kp tp sh sc pa kc kq le m nw od tr ah kr ka ln sz it k) : CK Z d1 e2 x st kp tp sh sc pa kc kq le m nw od tr ah kr ka ln sz it k := by
  refine ⟨CR_agM h hr.1, ?_, ?_⟩
  · rw [h.1, h.2.2.2.1]; exact hr.2.1
  · rw [h.2.2.2.2.2.2.2.2.2.1]; exact hr.2.2
theorem agM_rd (hm : mdS Z2 m nw od fd tr rd ah kr ka ln sz it mv) (f : Nat → Int32) : agM m nw od tr ah kr ka ln sz it d2 (tA d2 rd f) :=
  ⟨by rw [gA_tA, if_neg hm.n_nw_rd], by rw [gA_tA, if_neg hm.n_od_rd], by rw [gA_tA, if_neg hm.n_tp_rd], by rw [gA_tA, if_neg hm.n_ah_rd], by rw [gA_tA, if_neg hm.n_kp_rd], by rw [gA_tA, if_neg hm.n_ka_rd], by rw [gA_tA, if_neg hm.n_ln_rd], by rw [gA_tA, if_neg hm.n_sz_rd], rfl, rfl, rfl, rfl⟩
theorem nt_nw (hm : mdS Z2 m nw od fd tr rd ah kr ka ln sz it mv) (k : Nat) : gA (ntD d2 m nw ah k) nw = gA d2 nw := by unfold ntD; rw [gA_sI, gA_tA, if_neg hm.n_nw_ah]
theorem CK_sc {k : Nat} (hr : CK Z d1 d2 x st kp tp sh sc pa kc kq le m nw od tr ah kr ka ln sz it k) : sR Z d1 sc (gA d2 nw) ∧ vR (gA d2 nw) := ⟨hr.2.1.2.2.1, hr.2.1.2.2.2.1⟩
theorem k_paint (hx : clS Z x st kp tp sr ha fi sp sh sc pa kc kq le dt mo ne) (hm : mdS Z2 m nw od fd tr rd ah kr ka ln sz it mv) {k : Nat} (c r v : Int32) (hr : CK Z d1 d2 x st kp tp sh sc pa kc kq le m nw od tr ah kr ka ln sz it k) : CR Z (paiD Z d1 st sc pa k c r v) (rpaD d2 m nw ah k c r v) x st kp tp sh sc pa kc kq le m nw od tr ah kr ka ln sz it := by
  have s1 := (CK_sc hr).1
  have v1 := (CK_sc hr).2
  unfold paiD rpaD
  rw [pix_cg s1.2.1]
  by_cases h : (inPic c r ∧ wthn v 0 9) ∧ ¬ pix (fun k => gA d2 nw (96 + k)) c r = v
  · rw [if_pos h, if_pos h]
    have hk := CK_ke hx hm hr
    have s2 := (CK_sc hk).1
    rw [nt_nw hm] at s2
    have hc := wth_nI 11 (by decide) h.1.1.1
    have hq := wth_nI 7 (by decide) h.1.1.2
    have hv := wth_nI 9 (by decide) h.1.2
    have hv9 : v.toInt = (tN v : Int) := (congrArg Int32.toInt hv.1).trans (nI_toInt (by omega))
    refine (CK_set hx hm (agR_tA (hx.inj.2.2.2.1 sc hx.scV).2.2.2.2.1.symm) (fun _ => ⟨rfl, rfl⟩) (fun _ => rfl) (fun s w hs hn _ q => sR_n_ne hx.inj hx.scV hs hn q) ?_ ?_ hk).1
    · refine ⟨fun j hj => ?_, fun j hj => ?_, ?_, ?_⟩
      · rw [gA_tA, if_neg hx.ab]
        unfold upd
        rw [if_neg (by omega)]
        exact s2.1 j hj
      · rw [gA_tA, if_pos rfl]
        show upd _ _ v j = upd _ _ v (96 + j)
        unfold upd
        by_cases h9 : j = 12 * tN r + tN c
        · rw [if_pos h9, if_pos (by omega)]
        · rw [if_neg h9, if_neg (by omega)]; exact s2.2.1 j hj
      · unfold upd; rw [if_neg (by omega)]; exact s2.2.2.1
      · unfold upd; rw [if_neg (by omega)]; exact s2.2.2.2
    · refine ⟨fun j hj => ?_, fun j hj => ?_, ?_, ?_⟩
      · unfold upd; rw [if_neg (by omega)]; exact v1.1 j hj
      · show 0 ≤ (upd _ _ v (96 + j)).toInt ∧ (upd _ _ v (96 + j)).toInt ≤ 9
        unfold upd
        by_cases h9 : 96 + j = 96 + (12 * tN r + tN c)
        · rw [if_pos h9, hv9]; omega
        · rw [if_neg h9]; exact v1.2.1 j hj
      · unfold upd; rw [if_neg (by omega)]; exact v1.2.2.1
      · unfold upd; rw [if_neg (by omega)]; exact v1.2.2.2
  · rw [if_neg h, if_neg h]; exact hr.1
theorem k_like (hx : clS Z x st kp tp sr ha fi sp sh sc pa kc kq le dt mo ne) (hm : mdS Z2 m nw od fd tr rd ah kr ka ln sz it mv) {k : Nat} (v : Int32) (hr : CK Z d1 d2 x st kp tp sh sc pa kc kq le m nw od tr ah kr ka ln sz it k) : CR Z (likD Z d1 st sc pa k v) (rliD d2 m nw ah k v) x st kp tp sh sc pa kc kq le m nw od tr ah kr ka ln sz it := by
  have s1 := (CK_sc hr).1
  have v1 := (CK_sc hr).2
  unfold likD rliD
  rw [s1.2.2.1]
  by_cases h : wthn v 0 4 ∧ ¬ gA d2 nw 192 = v
  · rw [if_pos h, if_pos h]
    have hk := CK_ke hx hm hr
    have s2 := (CK_sc hk).1
    rw [nt_nw hm] at s2
    have hv := wth_nI 4 (by decide) h.1
    refine (CK_set hx hm (agR_sI (by decide)) (fun _ => ⟨gI_ne (by decide) _ _ _ _, gI_ne (by decide) _ _ _ _⟩) (fun _ => rfl) (fun s w hs hn _ q => sR_i_ne hn q) ?_ ?_ hk).1
    · refine ⟨fun j hj => ?_, fun j hj => ?_, ?_, ?_⟩
      · unfold upd; rw [if_neg (by omega)]; exact s2.1 j hj
      · show _ = upd _ _ v (96 + j)
        unfold upd; rw [if_neg (by omega)]; exact s2.2.1 j hj
      · unfold upd; rw [if_pos rfl]; exact gI_eq _ _ _ _
      · unfold upd; rw [if_neg (by decide), gI_ne (by decide)]; exact s2.2.2.2
    · refine ⟨fun j hj => ?_, fun j hj => ?_, ?_, ?_⟩
      · unfold upd; rw [if_neg (by omega)]; exact v1.1 j hj
      · show 0 ≤ (upd _ _ v (96 + j)).toInt ∧ (upd _ _ v (96 + j)).toInt ≤ 9
        unfold upd; rw [if_neg (by omega)]; exact v1.2.1 j hj
      · unfold upd; rw [if_pos rfl]; exact ⟨tN v, by omega, hv.1⟩
      · unfold upd; rw [if_neg (by decide)]; exact v1.2.2.2
  · rw [if_neg h, if_neg h]; exact hr.1
theorem k_take (hx : clS Z x st kp tp sr ha fi sp sh sc pa kc kq le dt mo ne) (hm : mdS Z2 m nw od fd tr rd ah kr ka ln sz it mv) {k : Nat} (hr : CK Z d1 d2 x st kp tp sh sc pa kc kq le m nw od tr ah kr ka ln sz it k) : CR Z (takD Z (keD Z d1 st sc pa k) sc) (rtkD d2 m nw ah k) x st kp tp sh sc pa kc kq le m nw od tr ah kr ka ln sz it := by
  have v1 := (CK_sc hr).2
  have hk := CK_ke hx hm hr
  have s2 := (CK_sc hk).1
  rw [nt_nw hm] at s2
  unfold takD rtkD
  refine (CK_set hx hm (agR_tA (hx.inj.2.2.2.1 sc hx.scV).1.symm) (fun _ => ⟨rfl, rfl⟩) (fun _ => rfl) (fun s w hs hn _ q => sR_o_ne hx.inj hx.scV hs hn q) ?_ ?_ hk).1
  · refine ⟨fun j hj => ?_, fun j hj => ?_, ?_, ?_⟩
    · rw [gA_tA, if_pos rfl, cpy0 _ _ hj]
      unfold cpF
      rw [if_pos (by omega), Nat.sub_zero]
      exact s2.2.1 j hj
    · rw [gA_tA, if_neg hx.ab.symm]
      show _ = cpF _ _ 0 96 (96 + j)
      unfold cpF
      rw [if_neg (by omega)]
      exact s2.2.1 j hj
    · unfold cpF; rw [if_neg (by omega)]; exact s2.2.2.1
    · unfold cpF; rw [if_neg (by omega)]; exact s2.2.2.2
  · refine ⟨fun j hj => ?_, fun j hj => ?_, ?_, ?_⟩
    · unfold cpF; rw [if_pos (by omega), Nat.sub_zero]; exact v1.2.1 j hj
    · show 0 ≤ (cpF _ _ 0 96 (96 + j)).toInt ∧ (cpF _ _ 0 96 (96 + j)).toInt ≤ 9
      unfold cpF; rw [if_neg (by omega)]; exact v1.2.1 j hj
    · unfold cpF; rw [if_neg (by omega)]; exact v1.2.2.1
    · unfold cpF; rw [if_neg (by omega)]; exact v1.2.2.2
theorem e_take (hx : clS Z x st kp tp sr ha fi sp sh sc pa kc kq le dt mo ne) (hm : mdS Z2 m nw od fd tr rd ah kr ka ln sz it mv) {k : Nat} (hr : CK Z d1 d2 x st kp tp sh sc pa kc kq le m nw od tr ah kr ka ln sz it k) : cntL (fun i => decide (¬ gA (keD Z d1 st sc pa k) (oA Z sc) i = gA (keD Z d1 st sc pa k) (nA Z sc) i)) 96 0 0 = rtkR (gA d2 nw) (fun k => gA d2 nw (96 + k)) := by
  have s2 := (CK_sc (CK_ke hx hm hr)).1
  rw [nt_nw hm] at s2
  unfold rtkR
  refine cntL_cg 96 0 0 (fun t _ ht => ?_)
  show decide _ = decide _
  rw [s2.1 t (by omega), s2.2.1 t (by omega)]
theorem shL_at (g : Nat → Int32) (a b : Int32) : ∀ n i f j, shL g a b n i f j = if i ≤ j ∧ j < i + n then shP g a b j else f j
  | 0, i, f, j => by rw [if_neg (by omega)]; rfl
  | n + 1, i, f, j => by
    show shL g a b n (i + 1) (upd f i (shP g a b i)) j = _
    rw [shL_at g a b n (i + 1)]
    unfold upd
    by_cases h1 : j = i
    · subst h1
      rw [if_neg (by omega), if_pos rfl, if_pos (by omega)]
    · by_cases h2 : i + 1 ≤ j ∧ j < i + 1 + n
      · rw [if_pos h2, if_pos (by omega)]
      · rw [if_neg h2, if_neg h1, if_neg (by omega)]
theorem shE_sp (hx : clS Z x st kp tp sr ha fi sp sh sc pa kc kq le dt mo ne) {w : Nat → Int32} (hs : sR Z d sc w) : pE (gA (shE Z d sc sp) (nA Z sp)) (fun k => w (96 + k)) := fun j hj => by
  unfold shE
  rw [gA_tA, if_pos rfl, cpy0 _ _ hj]
  exact hs.2.1 j hj
theorem shF_at (hx : clS Z x st kp tp sr ha fi sp sh sc pa kc kq le dt mo ne) {w : Nat → Int32} (hs : sR Z d sc w) (a b : Int32) {j : Nat} (hj : j < 96) : gA (shF Z (shE Z d sc sp) sc sp a b) (nA Z sc) j = shP (fun k => w (96 + k)) a b j := by
  unfold shF
  rw [gA_tA, if_pos rfl, shL_at, if_pos (by omega)]
  unfold shP
  exact pix_cg (shE_sp hx hs) _ _
theorem e_shift (hx : clS Z x st kp tp sr ha fi sp sh sc pa kc kq le dt mo ne) (hm : mdS Z2 m nw od fd tr rd ah kr ka ln sz it mv) {k : Nat} (a b : Int32) (hr : CK Z d1 d2 x st kp tp sh sc pa kc kq le m nw od tr ah kr ka ln sz it k) : shiR Z (shiD Z d1 st sc pa k sp a b) sc sp a b = rshR (fun k => gA d2 nw (96 + k)) a b := by
  unfold shiR rshR shiD
  by_cases h : wthn a (-3) 3 ∧ wthn b (-3) 3
  · rw [if_pos h, if_pos h, if_pos h]
    have s2 := (CK_sc (CK_ke hx hm hr)).1
    rw [nt_nw hm] at s2
    refine cntL_cg 96 0 0 (fun t _ ht => ?_)
    show decide _ = decide _
    rw [shF_at hx s2 a b (by omega)]
    have e : gA (shF Z (shE Z (keD Z d1 st sc pa k) sc sp) sc sp a b) (nA Z sp) t = gA d2 nw (96 + t) := by
      unfold shF
      rw [gA_tA, if_neg hx.bsp]
      exact shE_sp hx s2 t (by omega)
    rw [e]
    exact decide_eq_decide.mpr ⟨fun q r => q r.symm, fun q r => q r.symm⟩
  · rw [if_neg h, if_neg h]
theorem k_shift (hx : clS Z x st kp tp sr ha fi sp sh sc pa kc kq le dt mo ne) (hm : mdS Z2 m nw od fd tr rd ah kr ka ln sz it mv) {k : Nat} (a b : Int32) (hr : CK Z d1 d2 x st kp tp sh sc pa kc kq le m nw od tr ah kr ka ln sz it k) : CR Z (shiD Z d1 st sc pa k sp a b) (rshD d2 m nw rd ah k a b) x st kp tp sh sc pa kc kq le m nw od tr ah kr ka ln sz it := by
  unfold shiD rshD
  by_cases h : wthn a (-3) 3 ∧ wthn b (-3) 3
  · rw [if_pos h, if_pos h]
    have v1 := (CK_sc hr).2
    have hk := CK_ke hx hm hr
    have s2 := (CK_sc hk).1
    rw [nt_nw hm] at s2
    have iN := (hx.inj.2.2.2.1 sc hx.scV).2.2.2.2.1.symm
    have iP := (hx.inj.2.2.2.1 sp hx.spv).2.2.2.2.1.symm
    have hsP : ∀ j, j < 96 → 0 ≤ (shP (fun k => gA d2 nw (96 + k)) a b j).toInt ∧ (shP (fun k => gA d2 nw (96 + k)) a b j).toInt ≤ 9 := fun j hj => v1.2.1 _ (pix_lt _ _)
    refine (CK_set hx hm (agR_tr (agR_tA (f := va_cpy (gA (keD Z d1 st sc pa k) (nA Z sc)) (gA (keD Z d1 st sc pa k) (nA Z sp)) 0 0 96) iP) (agR_tA iN)) (fun _ => ⟨rfl, rfl⟩) (fun _ => rfl) (fun s w hs hn hp q => sR_n_ne hx.inj hx.scV hs hn (sR_n_ne hx.inj hx.spv hs hp q)) ?_ ?_ (CK_agM (agM_rd hm _) hk)).1
    · refine ⟨fun j hj => ?_, fun j hj => ?_, ?_, ?_⟩
      · unfold cpF
        rw [if_neg (by omega)]
        rw [gA_tA, if_neg hx.ab, gA_tA, if_neg (hx.inj.2.2.1 sc sp hx.scV hx.spv)]
        exact s2.1 j hj
      · show _ = cpF _ _ 96 96 (96 + j)
        unfold cpF
        rw [if_pos (by omega), Nat.add_sub_cancel_left]
        exact shF_at hx s2 a b hj
      · unfold cpF; rw [if_neg (by omega)]; exact s2.2.2.1
      · unfold cpF; rw [if_neg (by omega)]; exact s2.2.2.2
    · refine ⟨fun j hj => ?_, fun j hj => ?_, ?_, ?_⟩
      · unfold cpF; rw [if_neg (by omega)]; exact v1.1 j hj
      · show 0 ≤ (cpF _ _ 96 96 (96 + j)).toInt ∧ (cpF _ _ 96 96 (96 + j)).toInt ≤ 9
        unfold cpF; rw [if_pos (by omega), Nat.add_sub_cancel_left]; exact hsP j hj
      · unfold cpF; rw [if_neg (by omega)]; exact v1.2.2.1
      · unfold cpF; rw [if_neg (by omega)]; exact v1.2.2.2
  · rw [if_neg h, if_neg h]; exact hr.1
/-- noise: a step -/
theorem CK_tur (hx : clS Z x st kp tp sr ha fi sp sh sc pa kc kq le dt mo ne) (hm : mdS Z2 m nw od fd tr rd ah kr ka ln sz it mv) {k : Nat} (hr : CK Z d1 d2 x st kp tp sh sc pa kc kq le m nw od tr ah kr ka ln sz it k) : CK Z (scT (keD Z d1 st sc pa k) sc (nA Z sc)) (rno1 d2 m nw ah k) x st kp tp sh sc pa kc kq le m nw od tr ah kr ka ln sz it (nk k) := by
  have v1 := (CK_sc hr).2
  have hk := CK_ke hx hm hr
  have s2 := (CK_sc hk).1
  rw [nt_nw hm] at s2
  have hmod : drwN (gA d2 nw 193) / 65536 % 96 < 96 := Nat.mod_lt _ (by decide)
  have hmod2 : drwN (gA d2 nw 193) / 65536 / 96 % 10 < 10 := Nat.mod_lt _ (by decide)
  unfold scT rno1
  refine CK_set hx hm (agR_tr (agR_sI (f := 99) (by decide)) (agR_tA (hx.inj.2.2.2.1 sc hx.scV).2.2.2.2.1.symm)) (fun a => ⟨(gI_ne (show 194 ≠ 99 by decide) (keD Z d1 st sc pa k) sc a (drwI (gI (keD Z d1 st sc pa k) 99 sc))), (gI_ne (show 258 ≠ 99 by decide) (keD Z d1 st sc pa k) sc a (drwI (gI (keD Z d1 st sc pa k) 99 sc)))⟩) (fun _ => rfl) (fun s w hs hn _ q => sR_n_ne hx.inj hx.scV hs hn (sR_i_ne hn q)) ?_ ?_ hk
  · refine ⟨fun j hj => ?_, fun j hj => ?_, ?_, ?_⟩
    · rw [gA_tA, if_neg hx.ab]
      unfold turN upd
      rw [if_neg (by omega), if_neg (by omega)]
      exact s2.1 j hj
    · rw [gA_tA, if_pos rfl, s2.2.2.2]
      show turF _ _ j = turN _ (96 + j)
      unfold turN turF upd
      by_cases h9 : j = drwN (gA d2 nw 193) / 65536 % 96
      · rw [if_pos h9, if_pos (by omega)]
      · rw [if_neg h9, if_neg (by omega), if_neg (by omega)]; exact s2.2.1 j hj
    · unfold turN upd
      rw [if_neg (by omega), if_neg (by decide), gI_tA, gI_ne (by decide)]
      exact s2.2.2.1
    · rw [turN_193, gI_tA, gI_eq, s2.2.2.2]
  · refine ⟨fun j hj => ?_, fun j hj => ?_, ?_, ?_⟩
    · unfold turN upd
      rw [if_neg (by omega), if_neg (by omega)]; exact v1.1 j hj
    · show 0 ≤ (turN _ (96 + j)).toInt ∧ (turN _ (96 + j)).toInt ≤ 9
      unfold turN upd
      by_cases h9 : 96 + j = 96 + drwN (gA d2 nw 193) / 65536 % 96
      · rw [if_pos h9, nI_toInt (by omega)]; omega
      · rw [if_neg h9, if_neg (by omega)]; exact v1.2.1 j hj
    · unfold turN upd
      rw [if_neg (by omega), if_neg (by decide)]; exact v1.2.2.1
    · rw [turN_193]; exact drw_pos _
theorem CK_no (hx : clS Z x st kp tp sr ha fi sp sh sc pa kc kq le dt mo ne) (hm : mdS Z2 m nw od fd tr rd ah kr ka ln sz it mv) : ∀ n k d1 d2, CK Z d1 d2 x st kp tp sh sc pa kc kq le m nw od tr ah kr ka ln sz it k → ∃ j, CK Z (noL Z st sc pa n d1 k) (rnoL m nw ah n d2 k) x st kp tp sh sc pa kc kq le m nw od tr ah kr ka ln sz it j
  | 0, k, _, _, hr => ⟨k, hr⟩
  | n + 1, k, d1, d2, hr => by
    have en : ntN k + 1 = nk k := by unfold ntN nk; split <;> omega
    show ∃ j, CK Z (noL Z st sc pa n (scT (keD Z d1 st sc pa k) sc (nA Z sc)) (nk k)) (rnoL m nw ah n (rno1 d2 m nw ah k) (ntN k + 1)) x st kp tp sh sc pa kc kq le m nw od tr ah kr ka ln sz it j
    rw [en]
    exact CK_no hx hm n (nk k) _ _ (CK_tur hx hm hr)
theorem lac_rla (hr : CR Z d1 d2 x st kp tp sh sc pa kc kq le m nw od tr ah kr ka ln sz it) : lacI Z d1 sc mo sr = rlaI (lyE d2 nw od fd) (gA d2 nw) := by
  obtain ⟨p1, p2, h1, h2, ⟨k, hk, e1, e2⟩, _, ho⟩ := CR_now hr
  have ly := lay_eq p1 p2 h1 h2 ho hk (gA d1 mo) (gA d2 fd) (gI d1 128 sr, gI d1 129 sr, gI d1 130 sr, gI d1 131 sr)
  unfold lacI fiT lyE; rw [e1, e2]; exact lac_eq ly.1 p1 p2
theorem e_noise (hx : clS Z x st kp tp sr ha fi sp sh sc pa kc kq le dt mo ne) (hm : mdS Z2 m nw od fd tr rd ah kr ka ln sz it mv) {k : Nat} (v : Int32) (hr : CK Z d1 d2 x st kp tp sh sc pa kc kq le m nw od tr ah kr ka ln sz it k) : (if wthn v 1 40 then lacI Z (noL Z st sc pa (tN v) d1 k) sc mo sr else -1000001) = rnoR (rnoL m nw ah (tN v) d2 k) nw od fd v := by
  unfold rnoR
  by_cases h : wthn v 1 40
  · rw [if_pos h, if_pos h]
    obtain ⟨j, hj⟩ := CK_no hx hm (tN v) k d1 d2 hr
    exact lac_rla hj.1
  · rw [if_neg h, if_neg h]
theorem k_noise (hx : clS Z x st kp tp sr ha fi sp sh sc pa kc kq le dt mo ne) (hm : mdS Z2 m nw od fd tr rd ah kr ka ln sz it mv) {k : Nat} (v : Int32) (hr : CK Z d1 d2 x st kp tp sh sc pa kc kq le m nw od tr ah kr ka ln sz it k) : CR Z (if wthn v 1 40 then fiD (noL Z st sc pa (tN v) d1 k) sr mo (fiT Z (noL Z st sc pa (tN v) d1 k) sc mo sr) else d1) (rnoD d2 (rnoL m nw ah (tN v) d2 k) nw od fd v) x st kp tp sh sc pa kc kq le m nw od tr ah kr ka ln sz it := by
  unfold rnoD
  by_cases h : wthn v 1 40
  · rw [if_pos h, if_pos h]
    obtain ⟨j, hj⟩ := CK_no hx hm (tN v) k d1 d2 hr
    exact CR_agC hx (agC_fiD hx _) (CR_agM (agM_fd hm _) hj.1)
  · rw [if_neg h, if_neg h]; exact hr.1
end
