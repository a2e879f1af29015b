/-! two pools side by side -/
def zJ (Z1 Z2 : mZ) : mZ := (Z1.1 ++ Z2.1, fun a => if a ∈ Z1.1 then mK Z1 a else mK Z2 a, fun f a => if a ∈ Z1.1 then rf Z1 f a else rf Z2 f a, fun a => if a ∈ Z1.1 then mN Z1 a else mN Z2 a)
def dJ (Z1 : mZ) (d1 d2 : mD) : mD := (fun f a => if a ∈ Z1.1 then gI d1 f a else gI d2 f a, fun a => if a ∈ Z1.1 then gA d1 a else gA d2 a, fun a => if a ∈ Z1.1 then gJ d1 a else gJ d2 a, fun a => if a ∈ Z1.1 then gO d1 a else gO d2 a)
theorem wE_cg {G : mG} {Z Z' : mZ} {d d' : mD} {a : Nat} (h1 : mK Z' a = mK Z a) (h2 : ∀ f, rf Z' f a = rf Z f a) (h3 : mN Z' a = mN Z a) (h4 : ∀ f, gI d' f a = gI d f a) (h5 : gA d' a = gA d a) (h6 : gJ d' a = gJ d a) (h7 : gO d' a = gO d a) : wE G Z' d' a = wE G Z d a := by
  simp only [wE, h1, h2, h3, h4, h5, h6, h7]
theorem wE_J1 {G : mG} {Z1 Z2 : mZ} {d1 d2 : mD} {a : Nat} (h : a ∈ Z1.1) : wE G (zJ Z1 Z2) (dJ Z1 d1 d2) a = wE G Z1 d1 a :=
  wE_cg (if_pos h) (fun _ => if_pos h) (if_pos h) (fun _ => if_pos h) (if_pos h) (if_pos h) (if_pos h)
theorem wE_J2 {G : mG} {Z1 Z2 : mZ} {d1 d2 : mD} {a : Nat} (h : a ∉ Z1.1) : wE G (zJ Z1 Z2) (dJ Z1 d1 d2) a = wE G Z2 d2 a :=
  wE_cg (if_neg h) (fun _ => if_neg h) (if_neg h) (fun _ => if_neg h) (if_neg h) (if_neg h) (if_neg h)
theorem mP_J {G : mG} {Z1 Z2 : mZ} {d1 d2 : mD} (h : ∀ a, a ∈ Z1.1 → a ∉ Z2.1) : mP G (zJ Z1 Z2) (dJ Z1 d1 d2) = mP G Z1 d1 ++ mP G Z2 d2 := by
  show va_pl (Z1.1 ++ Z2.1) _ = va_pl Z1.1 _ ++ va_pl Z2.1 _
  unfold va_pl
  rw [List.map_append]
  congr 1
  · exact List.map_congr_left fun a ha => by rw [wE_J1 ha]
  · exact List.map_congr_left fun a ha => by rw [wE_J2 (fun q => h a q ha)]
/-- places apart -/
def nd9 (L : List Nat) : Prop := ∀ (i j a : Nat), L[i]? = some a → L[j]? = some a → i = j
theorem nd9_app {L1 L2 : List Nat} (h1 : nd9 L1) (h2 : nd9 L2) (h : ∀ a, a ∈ L1 → a ∉ L2) : nd9 (L1 ++ L2) := fun i j a hi hj => by
  by_cases c1 : i < L1.length
  · rw [List.getElem?_append_left c1] at hi
    by_cases c2 : j < L1.length
    · rw [List.getElem?_append_left c2] at hj
      exact h1 i j a hi hj
    · rw [List.getElem?_append_right (Nat.not_lt.mp c2)] at hj
      exact absurd (List.mem_of_getElem? hj) (h a (List.mem_of_getElem? hi))
  · rw [List.getElem?_append_right (Nat.not_lt.mp c1)] at hi
    by_cases c2 : j < L1.length
    · rw [List.getElem?_append_left c2] at hj
      exact absurd (List.mem_of_getElem? hi) (h a (List.mem_of_getElem? hj))
    · rw [List.getElem?_append_right (Nat.not_lt.mp c2)] at hj
      have := h2 _ _ a hi hj
      omega
theorem nd9_l {L1 L2 : List Nat} (h : nd9 (L1 ++ L2)) : nd9 L1 := fun i j a hi hj => by
  have c1 := (List.getElem?_eq_some_iff.mp hi).1
  have c2 := (List.getElem?_eq_some_iff.mp hj).1
  exact h i j a (by rw [List.getElem?_append_left c1]; exact hi) (by rw [List.getElem?_append_left c2]; exact hj)
theorem nd9_r {L1 L2 : List Nat} (h : nd9 (L1 ++ L2)) : nd9 L2 := fun i j a hi hj => by
  have := h (L1.length + i) (L1.length + j) a (by rw [List.getElem?_append_right (by omega), Nat.add_sub_cancel_left]; exact hi) (by rw [List.getElem?_append_right (by omega), Nat.add_sub_cancel_left]; exact hj)
  omega
theorem mP_P {G : mG} {Z : mZ} {d : mD} {H : Heap} : va_P G.1 vwCl (mP G Z d) H ↔ ∀ a, a ∈ Z.1 → va_at G.1 vwCl (a, wE G Z d a) H := by
  constructor
  · intro h a ha
    obtain ⟨k, hk⟩ := mP_at (G := G) (d := d) ha rfl
    exact h k _ hk
  · intro h k q hk
    obtain ⟨a, ha, rfl⟩ := List.mem_map.mp (List.mem_of_getElem? hk)
    exact h a ha
theorem mP_D {A : Nat → Prop} {G : mG} {Z : mZ} {d : mD} : va_D A (mP G Z d) ↔ nd9 Z.1 ∧ ∀ a, a ∈ Z.1 → A a := by
  constructor
  · intro h
    refine ⟨fun i j a hi hj => ?_, fun a ha => ?_⟩
    · refine h.1 i j (a, wE G Z d a) (a, wE G Z d a) ?_ ?_ rfl
      · show (Z.1.map _)[i]? = _
        rw [List.getElem?_map, hi]; rfl
      · show (Z.1.map _)[j]? = _
        rw [List.getElem?_map, hj]; rfl
    · obtain ⟨k, hk⟩ := mP_at (G := G) (d := d) ha rfl
      exact h.2 k _ hk
  · intro h
    refine ⟨fun i j p q hi hj hpq => ?_, fun k q hk => h.2 _ (mP_mem hk)⟩
    have hi' : (Z.1.map fun a => (a, wE G Z d a))[i]? = some p := hi
    have hj' : (Z.1.map fun a => (a, wE G Z d a))[j]? = some q := hj
    rw [List.getElem?_map] at hi' hj'
    obtain ⟨a, ha, rfl⟩ := Option.map_eq_some_iff.mp hi'
    obtain ⟨b, hb, rfl⟩ := Option.map_eq_some_iff.mp hj'
    have hab : a = b := hpq
    subst hab
    exact h.1 i j a ha hb
theorem mWd_J {G : mG} {X : mF} {Z1 Z2 : mZ} {d1 d2 : mD} {H : Heap} {locs : List Loc} (h : ∀ a, a ∈ Z1.1 → a ∉ Z2.1) : mWd G X (zJ Z1 Z2) (dJ Z1 d1 d2) H locs ↔ mWd G X Z1 d1 H locs ∧ mWd G X Z2 d2 H locs := by
  constructor
  · intro hW
    obtain ⟨hP, hD, hS⟩ := hW
    rw [mP_P] at hP
    rw [mP_D] at hD
    refine ⟨⟨mP_P.mpr fun a ha => ?_, mP_D.mpr ⟨nd9_l hD.1, fun a ha => hD.2 a (List.mem_append_left _ ha)⟩, hS⟩, mP_P.mpr fun a ha => ?_, mP_D.mpr ⟨nd9_r hD.1, fun a ha => hD.2 a (List.mem_append_right _ ha)⟩, hS⟩
    · rw [← wE_J1 (Z2 := Z2) (d2 := d2) ha]; exact hP a (List.mem_append_left _ ha)
    · rw [← wE_J2 (Z1 := Z1) (d1 := d1) (fun q => h a q ha)]; exact hP a (List.mem_append_right _ ha)
  · intro hW
    obtain ⟨⟨hP1, hD1, hS⟩, hP2, hD2, _⟩ := hW
    rw [mP_P] at hP1 hP2
    rw [mP_D] at hD1 hD2
    refine ⟨mP_P.mpr fun a ha => ?_, mP_D.mpr ⟨nd9_app hD1.1 hD2.1 h, fun a ha => ?_⟩, hS⟩
    · by_cases c : a ∈ Z1.1
      · rw [wE_J1 c]; exact hP1 a c
      · rw [wE_J2 c]
        exact hP2 a ((List.mem_append.mp ha).elim (fun q => absurd q c) id)
    · rcases List.mem_append.mp ha with q | q
      · exact hD1.2 a q
      · exact hD2.2 a q
/-- the other pool stays -/
theorem mWd_kept {G : mG} {X : mF} {Z1 Z2 : mZ} {d2 : mD} {H H1 : Heap} {locs locs1 : List Loc} (h : ∀ a, a ∈ Z2.1 → a ∉ Z1.1) (hW : mWd G X Z2 d2 H locs) (hk : ∀ q : Nat, q < H.size → ¬ mAS Z1 H.size q → H1[q]? = H[q]?) (hS : va_S X.2.2.2.2.2.2.2.2.1 X.2.2.1.heap H1 locs1) : mWd G X Z2 d2 H1 locs1 := by
  refine ⟨mP_P.mpr fun a ha => ?_, hW.2.1, hS⟩
  have h0 := mP_P.mp hW.1 a ha
  have hl := h0.lt
  exact h0.kept (hk a hl (fun q => q.elim (h a ha) (fun r => absurd hl (Nat.not_lt.mpr r))))
section
variable {l : Launch} {G : mG} {R : Room} {X : mF} {own : String} {cc : ByteArray} {nL kc ns : Nat} {Z1 Z2 : mZ} {pc : Nat} {lv : List (Option Value)} {rest : List Value} {d1 d2 : mD} {y : MethodName} {cY : ByteArray} {nY : Nat} {ty : FieldType} {fr lo : Nat} {r0 : Int32} {d0 : mD} {ix n b ci : Nat} {As : List Value} {q : vw_C}
theorem callJ1 (hdis : ∀ a, a ∈ Z1.1 → a ∉ Z2.1) (hc : CtI l G y cY nY ty fr lo (.ref b :: As) Z1 d1 r0 d0) (hlk : Cond.methodLink own ix y ∈ AW) (hY : mYv y cY nY (some ty) n) (hob : ob Z1 ci b) (hci : vwCl[ci]? = some q) (hqn : q.1 = y.cls) (hn : As.length = n) (hro : fr + 1 ≤ R.frames ∧ 8 + (nY + 11) + lo ≤ R.locals) (hce : kc + 0 ≤ R.cells ∧ ns + 0 ≤ R.slots) (hst : (rest.map fun v => v.category).sum ≤ 8) (hd : decode cc pc = .ok (.invokevirtual ix, 3)) (kk : mGo l G R X own cc nL kc ns (zJ Z1 Z2) (pc + 3) lv (.int r0 :: rest) (dJ Z1 d0 d2)) : mGo l G R X own cc nL kc ns (zJ Z1 Z2) pc lv (As.reverse ++ .ref b :: rest) (dJ Z1 d1 d2) := by
  intro C9 H locs ls hW hL
  obtain ⟨hW1, hW2⟩ := (mWd_J hdis).mp hW
  refine va_calli (va_runV (As := As) (rest := rest) ⟨C9.1, C9.2.1, C9.2.2.1, C9.2.2.2.1, C9.2.2.2.2.1⟩ (hc H.size) (cwM C9 hlk hY hro) ⟨mFB, by rw [← hqn]; exact mRecv C9 hW1 hob hci, fun U hU hw => ⟨rfl, mPre_of C9 hW1 U hU hw⟩⟩ rfl hn hL.1 rfl (lv_room hst) hd hce) hW1.2.2 (fun q _ h => mA_of C9 hW1 q h) (mA_of C9 hW1) (fun r9 u9 t9 H1 locs1 ht9 hv9 hp9 hB9 hz9 hk9 hS9 => ?_)
  obtain ⟨rfl, rfl⟩ := hp9
  exact kk C9 H1 locs1 ls ((mWd_J hdis).mpr ⟨mAfter C9 hW1 ht9 hB9 hS9, mWd_kept (fun a h1 h2 => hdis a h2 h1) hW2 hk9 hS9⟩) hL
theorem callJ2 (hdis : ∀ a, a ∈ Z1.1 → a ∉ Z2.1) (hc : CtI l G y cY nY ty fr lo (.ref b :: As) Z2 d2 r0 d0) (hlk : Cond.methodLink own ix y ∈ AW) (hY : mYv y cY nY (some ty) n) (hob : ob Z2 ci b) (hci : vwCl[ci]? = some q) (hqn : q.1 = y.cls) (hn : As.length = n) (hro : fr + 1 ≤ R.frames ∧ 8 + (nY + 11) + lo ≤ R.locals) (hce : kc + 0 ≤ R.cells ∧ ns + 0 ≤ R.slots) (hst : (rest.map fun v => v.category).sum ≤ 8) (hd : decode cc pc = .ok (.invokevirtual ix, 3)) (kk : mGo l G R X own cc nL kc ns (zJ Z1 Z2) (pc + 3) lv (.int r0 :: rest) (dJ Z1 d1 d0)) : mGo l G R X own cc nL kc ns (zJ Z1 Z2) pc lv (As.reverse ++ .ref b :: rest) (dJ Z1 d1 d2) := by
  intro C9 H locs ls hW hL
  obtain ⟨hW1, hW2⟩ := (mWd_J hdis).mp hW
  refine va_calli (va_runV (As := As) (rest := rest) ⟨C9.1, C9.2.1, C9.2.2.1, C9.2.2.2.1, C9.2.2.2.2.1⟩ (hc H.size) (cwM C9 hlk hY hro) ⟨mFB, by rw [← hqn]; exact mRecv C9 hW2 hob hci, fun U hU hw => ⟨rfl, mPre_of C9 hW2 U hU hw⟩⟩ rfl hn hL.1 rfl (lv_room hst) hd hce) hW2.2.2 (fun q _ h => mA_of C9 hW2 q h) (mA_of C9 hW2) (fun r9 u9 t9 H1 locs1 ht9 hv9 hp9 hB9 hz9 hk9 hS9 => ?_)
  obtain ⟨rfl, rfl⟩ := hp9
  exact kk C9 H1 locs1 ls ((mWd_J hdis).mpr ⟨mWd_kept hdis hW1 hk9 hS9, mAfter C9 hW2 ht9 hB9 hS9⟩) hL
/-- the first object is made -/
theorem callN1 {mc ms : Nat} {Z : mZ} {d : mD} {Pn : mZ → mD → Prop} (hc : CtN l G y cY nY fr lo mc ms [.ref b] Z d Pn) (hlk : Cond.methodLink own ix y ∈ AW) (hY : mYi y cY nY) (hro : fr + 1 ≤ R.frames ∧ 8 + (nY + 11) + lo ≤ R.locals) (hce : kc + mc ≤ R.cells ∧ ns + ms ≤ R.slots) (hst : (rest.map fun v => v.category).sum ≤ 8) (hd : decode cc pc = .ok (.invokespecial ix, 3))
    (kk : ∀ Z' d', Pn Z' d' → mGo l G R X own cc nL (kc + mc) (ns + ms) Z' (pc + 3) lv rest d') : mGo l G R X own cc nL kc ns Z pc lv (.ref b :: rest) d := by
  intro C9 H locs ls hW hL
  refine va_callv (va_runI (As := []) (rest := rest) ⟨C9.1, C9.2.1, C9.2.2.1, C9.2.2.2.1, C9.2.2.2.2.1⟩ (hc H.size) ⟨callB_of 0 C9.2.2.2.2.1 (mGood hY.2.2.2.1) rfl rfl rfl (C9.2.2.2.2.1 _ hY.2.2.1) (C9.2.2.2.2.1 _ hlk) hY.2.2.2.2 hro, hY.1, C9.2.2.2.2.1 _ hY.2.1⟩ ⟨mFB, fun U hU hw => ⟨rfl, mPre_of C9 hW U hU hw⟩⟩ rfl rfl hL.1 rfl (lv_room hst) hd hce) hW.2.2 (fun q _ h => mA_of C9 hW q h) (mA_of C9 hW) (fun u9 t9 H1 locs1 ht9 hv9 hp9 hB9 hz9 hk9 hS9 => ?_)
  exact kk u9.1 u9.2 hp9 C9 H1 locs1 ls ⟨by rw [← ht9]; exact hB9.1, hB9.2.weaken (fun k x _ hx => mA_of C9 hW x.1 hx), hS9⟩ hL
/-- the second one beside the first -/
theorem callN2 {mc ms : Nat} {Pn : mZ → mD → Prop} (hdis : ∀ a, a ∈ Z1.1 → a ∉ Z2.1) (hc : CtN l G y cY nY fr lo mc ms [.ref b] Z2 d2 Pn) (hlk : Cond.methodLink own ix y ∈ AW) (hY : mYi y cY nY) (hro : fr + 1 ≤ R.frames ∧ 8 + (nY + 11) + lo ≤ R.locals) (hce : kc + mc ≤ R.cells ∧ ns + ms ≤ R.slots) (hst : (rest.map fun v => v.category).sum ≤ 8) (hd : decode cc pc = .ok (.invokespecial ix, 3))
    (kk : ∀ Z' d', (∀ a, a ∈ Z1.1 → a ∉ Z'.1) → Pn Z' d' → mGo l G R X own cc nL (kc + mc) (ns + ms) (zJ Z1 Z') (pc + 3) lv rest (dJ Z1 d1 d')) : mGo l G R X own cc nL kc ns (zJ Z1 Z2) pc lv (.ref b :: rest) (dJ Z1 d1 d2) := by
  intro C9 H locs ls hW hL
  obtain ⟨hW1, hW2⟩ := (mWd_J hdis).mp hW
  refine va_callv (va_runI (As := []) (rest := rest) ⟨C9.1, C9.2.1, C9.2.2.1, C9.2.2.2.1, C9.2.2.2.2.1⟩ (hc H.size) ⟨callB_of 0 C9.2.2.2.2.1 (mGood hY.2.2.2.1) rfl rfl rfl (C9.2.2.2.2.1 _ hY.2.2.1) (C9.2.2.2.2.1 _ hlk) hY.2.2.2.2 hro, hY.1, C9.2.2.2.2.1 _ hY.2.1⟩ ⟨mFB, fun U hU hw => ⟨rfl, mPre_of C9 hW2 U hU hw⟩⟩ rfl rfl hL.1 rfl (lv_room hst) hd hce) hW2.2.2 (fun q _ h => mA_of C9 hW2 q h) (mA_of C9 hW2) (fun u9 t9 H1 locs1 ht9 hv9 hp9 hB9 hz9 hk9 hS9 => ?_)
  have hd9 : ∀ a, a ∈ Z1.1 → a ∉ u9.1.1 := fun a h1 h2 => by
    have hl := (mP_P.mp hW1.1 a h1).lt
    rcases (mP_D.mp hB9.2).2 a h2 with q | q
    · exact hdis a h1 q
    · exact absurd hl (Nat.not_lt.mpr q)
  exact kk u9.1 u9.2 hd9 hp9 C9 H1 locs1 ls ((mWd_J hd9).mpr ⟨mWd_kept hdis hW1 hk9 hS9, by rw [← ht9]; exact hB9.1, hB9.2.weaken (fun k x _ hx => mA_of C9 hW2 x.1 hx), hS9⟩) hL
/-- a world by its cells alone -/
theorem mGo_cg {Z Z' : mZ} {d d' : mD} {st : List Value} (h : mP G Z d = mP G Z' d') (kk : mGo l G R X own cc nL kc ns Z' pc lv st d') : mGo l G R X own cc nL kc ns Z pc lv st d := by
  intro C9 H locs ls hW hL
  refine kk C9 H locs ls ?_ hL
  unfold mWd at hW ⊢
  rw [← h]; exact hW
/-- the script -/
theorem g_sld {Z : mZ} {d : mD} {L : Nat} {xs : Nat → Int32} {i : Int32} (j : Nat) (hX : va_X b L xs X.2.2.1 X.2.2.1.heap) (hbl : b < X.2.2.1.heap.size) (hbA : ¬ X.2.2.2.2.2.2.2.2.1 b) (hi : i = nI j) (hj : j < L) (hL9 : L < 2 ^ 31) (hd : decode cc pc = .ok (.iaload, 1)) (kk : mGo l G R X own cc nL kc ns Z (pc + 1) lv (.int (xs j) :: rest) d) : mGo l G R X own cc nL kc ns Z pc lv (.int i :: .ref b :: rest) d := by
  intro C9 H locs ls hW hL
  subst hi
  refine va_sld C9.1 C9.2.1 hX hbl hbA hW.2.2 (vp_in_nI hj hL9) hd ?_
  rw [nI_clamp (Nat.lt_trans hj hL9)]
  exact kk C9 H locs ls hW hL
theorem g_sln {Z : mZ} {d : mD} {L : Nat} {xs : Nat → Int32} (hX : va_X b L xs X.2.2.1 X.2.2.1.heap) (hbl : b < X.2.2.1.heap.size) (hbA : ¬ X.2.2.2.2.2.2.2.2.1 b) (hd : decode cc pc = .ok (.arraylength, 1)) (kk : mGo l G R X own cc nL kc ns Z (pc + 1) lv (.int (nI L) :: rest) d) : mGo l G R X own cc nL kc ns Z pc lv (.ref b :: rest) d := by
  intro C9 H locs ls hW hL
  exact va_slen C9.1 C9.2.1 hX hbl hbA hW.2.2 hd (kk C9 H locs ls hW hL)
end
