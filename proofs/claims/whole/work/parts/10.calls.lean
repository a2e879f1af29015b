def mAS (Z : mZ) (sz : Nat) : Nat → Prop := fun q => q ∈ Z.1 ∨ sz ≤ q
def mPre (G : mG) (Z : mZ) (d : mD) (sz : Nat) (U : State) : Prop := U.heap.size = sz ∧ va_P G.1 vwCl (mP G Z d) U.heap ∧ va_K G.1 vwCl (mT G) U ∧ va_D (fun _ => True) (mP G Z d) ∧ mNs U ∧ mOT G.2.2.2.2.2 (mAS Z sz) U U.heap
def mPost (G : mG) (Z : mZ) (sz : Nat) (u : mD) (t : State) : Prop := va_P G.1 vwCl (mP G Z u) t.heap ∧ va_D (mAS Z sz) (mP G Z u)
theorem mFB {av : List Value} {G : mG} {Z : mZ} {d : mD} {sz : Nat} : FrameBlind (va_Pc av (mPre G Z d sz)) := fun a U g mk q => by
  obtain ⟨q0, q1, qP, qK, qD, qN, qO⟩ := q
  exact ⟨q0, q1, qP, va_K.moved (u := U) (U := U.calling g mk a) (Vm.Alike.refl U.vm) qK, qD, mNs.warm (s := U) (U := U.calling g mk a) (State.WarmedH.refl U) qN, va_Z.moved (u := U) (U := U.calling g mk a) (Vm.Alike.refl U.vm) qO.1, va_T.moved (u := U) (U := U.calling g mk a) (Vm.Alike.refl U.vm) qO.2⟩
theorem mP_mem {G : mG} {Z : mZ} {d : mD} {k : Nat} {q : Nat × va_E} (h : (mP G Z d)[k]? = some q) : q.1 ∈ Z.1 := by
  have h1 := List.mem_of_getElem? h
  obtain ⟨a, ha, rfl⟩ := List.mem_map.mp h1
  exact ha
theorem mA_of {G : mG} {X : mF} {own : String} {cc : ByteArray} {nL : Nat} {Z : mZ} {d : mD} {H : Heap} {locs : List Loc} (C9 : mCx G X own cc nL) (hW : mWd G X Z d H locs) : ∀ q, mAS Z H.size q → X.2.2.2.2.2.2.2.2.1 q := by
  intro q hq
  rcases hq with hq | hq
  · obtain ⟨k, hk⟩ := mP_at (G := G) (d := d) hq rfl
    exact hW.2.1.2 k _ hk
  · exact C9.2.2.2.2.2.2.2.2 q (Nat.le_trans hW.2.2.1 hq)
theorem mPre_of {G : mG} {X : mF} {own : String} {cc : ByteArray} {nL : Nat} {Z : mZ} {d : mD} {H : Heap} {locs : List Loc} (C9 : mCx G X own cc nL) (hW : mWd G X Z d H locs) (U : State) (hU : U.heap = H) (hw : X.2.2.1.WarmedH U.vm) : mPre G Z d H.size U := by
  obtain ⟨hx, hb, hml, hown, hA, hN, hK, hO, hq⟩ := id C9
  have hAB := mA_of C9 hW
  refine ⟨by rw [hU], by rw [hU]; exact hW.1, va_K.moved hw.alike hK, hW.2.1.weaken (fun _ _ _ _ => trivial), mNs.warm hw hN, ?_, ?_⟩
  · rw [hU]
    exact (va_Z.moved hw.alike (va_Z.kept hO.1 (fun a h1 h2 => hW.2.2.2.1 a h1 h2))).narrow hAB
  · rw [hU]
    exact (va_T.moved hw.alike (va_T.kept hO.2 (fun a h1 h2 => hW.2.2.2.1 a h1 h2))).narrow hAB
/-! ===== contracts: a method that makes nothing answers just this, and leaves just these data ===== -/
abbrev mRm (fr lo : Nat) : Room := { frames := fr, cells := 0, slots := 0, locals := lo }
def CtI (l : Launch) (G : mG) (y : MethodName) (cc : ByteArray) (nL : Nat) (ty : FieldType) (fr lo : Nat) (av : List Value) (Z : mZ) (d : mD) (r0 : Int32) (d0 : mD) : Prop :=
  ∀ sz, Met l y (.code y cc nL (some ty) :: AW) (mRm fr lo) (va_Pc av (mPre G Z d sz)) (va_Qi (fun r (u : mD) => r = r0 ∧ u = d0) (mPost G Z sz) (mAS Z sz)) 0 0 (mAS Z sz)
def CtL (l : Launch) (G : mG) (y : MethodName) (cc : ByteArray) (nL : Nat) (fr lo : Nat) (av : List Value) (Z : mZ) (d : mD) (r0 : Int64) (d0 : mD) : Prop :=
  ∀ sz, Met l y (.code y cc nL (some .long) :: AW) (mRm fr lo) (va_Pc av (mPre G Z d sz)) (va_Ql (fun r (u : mD) => r = r0 ∧ u = d0) (mPost G Z sz) (mAS Z sz)) 0 0 (mAS Z sz)
def CtV (l : Launch) (G : mG) (y : MethodName) (cc : ByteArray) (nL : Nat) (fr lo : Nat) (av : List Value) (Z : mZ) (d : mD) (d0 : mD) : Prop :=
  ∀ sz, Met l y (.code y cc nL none :: AW) (mRm fr lo) (va_Pc av (mPre G Z d sz)) (va_Qv (fun (u : mD) => u = d0) (mPost G Z sz) (mAS Z sz)) 0 0 (mAS Z sz)
def mIni : List Value → List (Option Value)
  | [] => []
  | v :: vs => some v :: (if v.category = 2 then none :: mIni vs else mIni vs)
theorem mIni_mem : ∀ (av : List Value) (i k : Nat) (v : Value), (mIni av)[k]? = some (some v) → (i + k, v) ∈ lv_args i av
  | [], i, k, v, h => by simp [mIni] at h
  | w :: vs, i, k, v, h => by
    rw [mIni] at h
    rw [lv_args]
    cases k with
    | zero =>
      simp only [List.getElem?_cons_zero, Option.some.injEq] at h
      subst h
      exact List.mem_cons_self
    | succ k =>
      rw [List.getElem?_cons_succ] at h
      refine List.mem_cons_of_mem _ ?_
      by_cases hc : w.category = 2
      · rw [if_pos hc] at h ⊢
        cases k with
        | zero => simp at h
        | succ k =>
          rw [List.getElem?_cons_succ] at h
          have := mIni_mem vs (i + 2) k v h
          rwa [show i + 2 + k = i + (k + 1 + 1) by omega] at this
      · rw [if_neg hc] at h ⊢
        have := mIni_mem vs (i + 1) k v h
        rwa [show i + 1 + k = i + (k + 1) by omega] at this
theorem mIni_len : ∀ (av : List Value), (mIni av).length = (lg_sl av).length
  | [] => rfl
  | v :: vs => by
    have ih := mIni_len vs
    by_cases hc : v.category = 2
    · simp [mIni, lg_sl, hc] at ih ⊢; omega
    · simp [mIni, lg_sl, hc] at ih ⊢; omega
theorem mLv_ini {av : List Value} {nL nr : Nat} {lv : List (Option Value)} (h : mIni av ++ List.replicate nr none = lv) (hl : lv.length = nL) {ls : Array Slot} (hh : lv_has ls nL (lv_args 0 av)) : mLv ls nL lv := by
  refine ⟨hh.1, hh.2.1, Nat.le_of_eq hl, fun k v hk => ?_⟩
  rw [← h] at hk
  have h2 : (mIni av)[k]? = some (some v) := by
    by_cases hlt : k < (mIni av).length
    · rwa [List.getElem?_append_left hlt] at hk
    · rw [List.getElem?_append_right (Nat.not_lt.mp hlt), List.getElem?_replicate] at hk
      split at hk <;> simp at hk
  have := hh.2.2 _ (mIni_mem av 0 k v h2)
  simpa using this
def mRetI (l : Launch) (G : mG) (R : Room) (X : mF) (own : String) (cc : ByteArray) (nL : Nat) (Z : mZ) (r0 : Int32) (d0 : mD) : Prop := ∀ (pc : Nat) (lv : List (Option Value)), decode cc pc = .ok (.ireturn, 1) → mGo l G R X own cc nL 0 0 Z pc lv [.int r0] d0
def mRetL (l : Launch) (G : mG) (R : Room) (X : mF) (own : String) (cc : ByteArray) (nL : Nat) (Z : mZ) (r0 : Int64) (d0 : mD) : Prop := ∀ (pc : Nat) (lv : List (Option Value)), decode cc pc = .ok (.lreturn, 1) → mGo l G R X own cc nL 0 0 Z pc lv [.long r0] d0
def mRetV (l : Launch) (G : mG) (R : Room) (X : mF) (own : String) (cc : ByteArray) (nL : Nat) (Z : mZ) (d0 : mD) : Prop := ∀ (pc : Nat) (lv : List (Option Value)), decode cc pc = .ok (.return_, 1) → mGo l G R X own cc nL 0 0 Z pc lv [] d0
theorem retI {l : Launch} {G : mG} {R : Room} {X : mF} {own : String} {cc : ByteArray} {nL : Nat} {Z : mZ} {r0 r1 : Int32} {d0 d1 : mD} {pc : Nat} {lv : List (Option Value)} (hR : mRetI l G R X own cc nL Z r0 d0) (hd : decode cc pc = .ok (.ireturn, 1)) (h1 : r1 = r0) (h2 : d1 = d0) : mGo l G R X own cc nL 0 0 Z pc lv [.int r1] d1 := by
  subst h1; subst h2; exact hR pc lv hd
theorem retL {l : Launch} {G : mG} {R : Room} {X : mF} {own : String} {cc : ByteArray} {nL : Nat} {Z : mZ} {r0 r1 : Int64} {d0 d1 : mD} {pc : Nat} {lv : List (Option Value)} (hR : mRetL l G R X own cc nL Z r0 d0) (hd : decode cc pc = .ok (.lreturn, 1)) (h1 : r1 = r0) (h2 : d1 = d0) : mGo l G R X own cc nL 0 0 Z pc lv [.long r1] d1 := by
  subst h1; subst h2; exact hR pc lv hd
theorem retV {l : Launch} {G : mG} {R : Room} {X : mF} {own : String} {cc : ByteArray} {nL : Nat} {Z : mZ} {d0 d1 : mD} {pc : Nat} {lv : List (Option Value)} (hR : mRetV l G R X own cc nL Z d0) (hd : decode cc pc = .ok (.return_, 1)) (h2 : d1 = d0) : mGo l G R X own cc nL 0 0 Z pc lv [] d1 := by
  subst h2; exact hR pc lv hd
/-- a method's start, when it answers an int -/
theorem enterI {l : Launch} {G : mG} {y : MethodName} {cc : ByteArray} {nL : Nat} {ty : FieldType} {fr lo : Nat} {av : List Value} {Z : mZ} {d : mD} {r0 : Int32} {d0 : mD} (own : String) (nr : Nat) (lv : List (Option Value)) (hy : plainName y.cls = true) (ho : y.cls = own) (hnr : narrow ty (.int r0) = .int r0) (hlv : mIni av ++ List.replicate nr none = lv) (hll : lv.length = nL)
    (body : ∀ X : mF, mRetI l G (mRm fr lo) X own cc nL Z r0 d0 → mGo l G (mRm fr lo) X own cc nL 0 0 Z 0 lv [] d) : CtI l G y cc nL ty fr lo av Z d r0 d0 := by
  intro sz
  refine Met.ofW (cc := cc) (maxL := nL) (ret := some ty) hy rfl ?_
  intro p e s m args below meth c s₁ B hml hv
  obtain ⟨rfl, hsz, hP, hK, hD, hN, hO⟩ := hv
  have hts := atoms_spec (ws := .code y cc nL (some ty) :: AW) B.pre
  have hown : s.vm.findClass own = some m.cls := by rw [← ho]; exact findClass_of_methodNamed B.named
  have hlocks := B.notSynchronized
  have hr := B.returns
  subst hsz
  have hlen : (lg_sl av).length ≤ nL := by rw [← mIni_len, ← hll, ← hlv, List.length_append]; omega
  have hl := lv_entry av (n := nL) hlen
  rw [lg_entry_eq]
  have C9 : mCx G (p, e, s, m, av.toArray, below, meth, c, mAS Z s.heap.size, MQ below (va_Qi (fun r (u : mD) => r = r0 ∧ u = d0) (mPost G Z s.heap.size) (mAS Z s.heap.size)) av.toArray s 0 0 (mAS Z s.heap.size)) own cc nL := ⟨B.exec, B.bytes, hml, hown, fun w hw => hts w (List.mem_cons_of_mem _ hw), hN, hK, hO, fun q hq => Or.inr hq⟩
  refine body (p, e, s, m, av.toArray, below, meth, c, mAS Z s.heap.size, MQ below (va_Qi (fun r (u : mD) => r = r0 ∧ u = d0) (mPost G Z s.heap.size) (mAS Z s.heap.size)) av.toArray s 0 0 (mAS Z s.heap.size)) ?_ C9 s.heap [] _ ⟨hP, ⟨hD.1, fun k q hk => Or.inl (mP_mem hk)⟩, va_S.rf⟩ (mLv_ini hlv hll hl)
  intro pc lv2 hd C H locs ls hW hL
  exact W.zret C.1 C.2.1 hr hnr (fun t ht _ => ⟨⟨r0, d0, rfl, ⟨rfl, rfl⟩, by rw [ht]; exact hW.1, hW.2.1⟩, hW.2.2.F ht⟩) hW.2.2.2.2 hd hlocks
theorem enterL {l : Launch} {G : mG} {y : MethodName} {cc : ByteArray} {nL : Nat} {fr lo : Nat} {av : List Value} {Z : mZ} {d : mD} {r0 : Int64} {d0 : mD} (own : String) (nr : Nat) (lv : List (Option Value)) (hy : plainName y.cls = true) (ho : y.cls = own) (hlv : mIni av ++ List.replicate nr none = lv) (hll : lv.length = nL)
    (body : ∀ X : mF, mRetL l G (mRm fr lo) X own cc nL Z r0 d0 → mGo l G (mRm fr lo) X own cc nL 0 0 Z 0 lv [] d) : CtL l G y cc nL fr lo av Z d r0 d0 := by
  intro sz
  refine Met.ofW (cc := cc) (maxL := nL) (ret := some .long) hy rfl ?_
  intro p e s m args below meth c s₁ B hml hv
  obtain ⟨rfl, hsz, hP, hK, hD, hN, hO⟩ := hv
  have hts := atoms_spec (ws := .code y cc nL (some .long) :: AW) B.pre
  have hown : s.vm.findClass own = some m.cls := by rw [← ho]; exact findClass_of_methodNamed B.named
  have hlocks := B.notSynchronized
  have hr := B.returns
  subst hsz
  have hlen : (lg_sl av).length ≤ nL := by rw [← mIni_len, ← hll, ← hlv, List.length_append]; omega
  have hl := lv_entry av (n := nL) hlen
  rw [lg_entry_eq]
  have C9 : mCx G (p, e, s, m, av.toArray, below, meth, c, mAS Z s.heap.size, MQ below (va_Ql (fun r (u : mD) => r = r0 ∧ u = d0) (mPost G Z s.heap.size) (mAS Z s.heap.size)) av.toArray s 0 0 (mAS Z s.heap.size)) own cc nL := ⟨B.exec, B.bytes, hml, hown, fun w hw => hts w (List.mem_cons_of_mem _ hw), hN, hK, hO, fun q hq => Or.inr hq⟩
  refine body (p, e, s, m, av.toArray, below, meth, c, mAS Z s.heap.size, MQ below (va_Ql (fun r (u : mD) => r = r0 ∧ u = d0) (mPost G Z s.heap.size) (mAS Z s.heap.size)) av.toArray s 0 0 (mAS Z s.heap.size)) ?_ C9 s.heap [] _ ⟨hP, ⟨hD.1, fun k q hk => Or.inl (mP_mem hk)⟩, va_S.rf⟩ (mLv_ini hlv hll hl)
  intro pc lv2 hd C H locs ls hW hL
  exact W.lret C.1 C.2.1 hr (fun t ht _ => ⟨⟨r0, d0, rfl, ⟨rfl, rfl⟩, by rw [ht]; exact hW.1, hW.2.1⟩, hW.2.2.F ht⟩) hW.2.2.2.2 hd hlocks
theorem enterV {l : Launch} {G : mG} {y : MethodName} {cc : ByteArray} {nL : Nat} {fr lo : Nat} {av : List Value} {Z : mZ} {d : mD} {d0 : mD} (own : String) (nr : Nat) (lv : List (Option Value)) (hy : plainName y.cls = true) (ho : y.cls = own) (hlv : mIni av ++ List.replicate nr none = lv) (hll : lv.length = nL)
    (body : ∀ X : mF, mRetV l G (mRm fr lo) X own cc nL Z d0 → mGo l G (mRm fr lo) X own cc nL 0 0 Z 0 lv [] d) : CtV l G y cc nL fr lo av Z d d0 := by
  intro sz
  refine Met.ofW (cc := cc) (maxL := nL) (ret := none) hy rfl ?_
  intro p e s m args below meth c s₁ B hml hv
  obtain ⟨rfl, hsz, hP, hK, hD, hN, hO⟩ := hv
  have hts := atoms_spec (ws := .code y cc nL none :: AW) B.pre
  have hown : s.vm.findClass own = some m.cls := by rw [← ho]; exact findClass_of_methodNamed B.named
  have hlocks := B.notSynchronized
  have hr := B.returns
  subst hsz
  have hlen : (lg_sl av).length ≤ nL := by rw [← mIni_len, ← hll, ← hlv, List.length_append]; omega
  have hl := lv_entry av (n := nL) hlen
  rw [lg_entry_eq]
  have C9 : mCx G (p, e, s, m, av.toArray, below, meth, c, mAS Z s.heap.size, MQ below (va_Qv (fun (u : mD) => u = d0) (mPost G Z s.heap.size) (mAS Z s.heap.size)) av.toArray s 0 0 (mAS Z s.heap.size)) own cc nL := ⟨B.exec, B.bytes, hml, hown, fun w hw => hts w (List.mem_cons_of_mem _ hw), hN, hK, hO, fun q hq => Or.inr hq⟩
  refine body (p, e, s, m, av.toArray, below, meth, c, mAS Z s.heap.size, MQ below (va_Qv (fun (u : mD) => u = d0) (mPost G Z s.heap.size) (mAS Z s.heap.size)) av.toArray s 0 0 (mAS Z s.heap.size)) ?_ C9 s.heap [] _ ⟨hP, ⟨hD.1, fun k q hk => Or.inl (mP_mem hk)⟩, va_S.rf⟩ (mLv_ini hlv hll hl)
  intro pc lv2 hd C H locs ls hW hL
  exact W.vret C.1 C.2.1 hr (fun t ht _ => ⟨⟨d0, rfl, rfl, by rw [ht]; exact hW.1, hW.2.1⟩, hW.2.2.F ht⟩) hW.2.2.2.2 hd hlocks
/-! ===== calls ===== -/
/-- what the tables say of a method of an object (of a static one) -/
def mYv (y : MethodName) (cc : ByteArray) (nL : Nat) (ret : Option FieldType) (n : Nat) : Prop := Cond.instanceMethod y ∈ AW ∧ Cond.selects y.cls y y ∈ AW ∧ Cond.initialized y.cls ∈ AW ∧ Cond.code y cc nL ret ∈ AW ∧ (y.cls ≠ "java/lang/invoke/MethodHandle" ∧ y.cls ≠ "java/lang/invoke/VarHandle" ∧ (parseMethodDescriptor y.desc).map (fun d => d.parameters.length) = some n)
def mYs (y : MethodName) (cc : ByteArray) (nL : Nat) (ret : Option FieldType) (n : Nat) : Prop := Cond.static y ∈ AW ∧ Cond.initialized y.cls ∈ AW ∧ Cond.code y cc nL ret ∈ AW ∧ (y.cls ≠ "java/lang/invoke/MethodHandle" ∧ y.cls ≠ "java/lang/invoke/VarHandle" ∧ (parseMethodDescriptor y.desc).map (fun d => d.parameters.length) = some n)
theorem mGood {y : MethodName} {cc : ByteArray} {nL : Nat} {ret : Option FieldType} (h : Cond.code y cc nL ret ∈ AW) : GoodIn AW (.code y cc nL ret :: AW) := fun w hw => by
  rcases List.mem_cons.mp hw with rfl | hw
  · exact ⟨h, AW_good _ h⟩
  · exact ⟨hw, AW_good _ hw⟩
/-- an object of the pool is an object of its class -/
theorem mRecv {G : mG} {X : mF} {own : String} {cc : ByteArray} {nL : Nat} {Z : mZ} {d : mD} {H : Heap} {locs : List Loc} (C9 : mCx G X own cc nL) (hW : mWd G X Z d H locs) {b ci : Nat} {q : vw_C} (h : ob Z ci b) (hc : vwCl[ci]? = some q) : ∃ cell : Cell, H[b]? = some cell ∧ cell.vm.isStatics = false ∧ X.2.2.1.vm.findClass q.1 = some cell.cls := by
  have hlt : ci < 10 := (List.getElem?_eq_some_iff.mp hc).1
  have he : ∃ fs, wE G Z d b = .inr (ci, fs) := by
    have h2 := h.2
    match ci, hlt, h2 with
    | 0, _, h2 | 1, _, h2 | 2, _, h2 | 3, _, h2 | 4, _, h2 | 5, _, h2 | 6, _, h2 | 7, _, h2 | 8, _, h2 | 9, _, h2 => exact ⟨_, by simp only [wE, h2]; rfl⟩
  obtain ⟨fs, he⟩ := he
  obtain ⟨k, hk⟩ := mP_at h.1 he
  exact va_recv C9.2.2.2.2.2.2.1 hW.1 hc hk
section
variable {l : Launch} {G : mG} {R : Room} {X : mF} {own : String} {cc : ByteArray} {nL kc ns : Nat} {Z : mZ} {pc : Nat} {lv : List (Option Value)} {rest : List Value} {d : mD} {y : MethodName} {cY : ByteArray} {nY : Nat} {ty : FieldType} {fr lo : Nat} {r0 : Int32} {rL : Int64} {d0 : mD} {ix n b ci : Nat} {As : List Value} {q : vw_C}
/-- what stays to be done behind a call -/
theorem mAfter {H1 : Heap} {locs1 : List Loc} {H : Heap} {locs : List Loc} {u : mD} (C9 : mCx G X own cc nL) (hW : mWd G X Z d H locs) {t : State} (ht : t.heap = H1) (hB : mPost G Z H.size u t) (hS : va_S X.2.2.2.2.2.2.2.2.1 X.2.2.1.heap H1 locs1) : mWd G X Z u H1 locs1 := by
  refine ⟨by rw [← ht]; exact hB.1, hB.2.weaken (fun k x _ hx => mA_of C9 hW x.1 hx), hS⟩
theorem cwM (C9 : mCx G X own cc nL) {ret : Option FieldType} (hlk : Cond.methodLink own ix y ∈ AW) (hY : mYv y cY nY ret n) (hro : fr + 1 ≤ R.frames ∧ 8 + (nY + 11) + lo ≤ R.locals) : CallW R X.2.2.1 X.2.2.2.2.1 own y.cls ix y cY nY ret (.code y cY nY ret :: AW) (mRm fr lo) 0 0 n :=
  ⟨callB_of n C9.2.2.2.2.1 (mGood hY.2.2.2.1) rfl rfl rfl (C9.2.2.2.2.1 _ hY.2.2.1) (C9.2.2.2.2.1 _ hlk) hY.2.2.2.2 hro, C9.2.2.2.2.1 _ hY.1, C9.2.2.2.2.1 _ hY.2.1⟩
theorem cwMs (C9 : mCx G X own cc nL) {ret : Option FieldType} (hlk : Cond.methodLink own ix y ∈ AW) (hY : mYs y cY nY ret n) (hro : fr + 1 ≤ R.frames ∧ 8 + (nY + 11) + lo ≤ R.locals) : CallB R X.2.2.1 X.2.2.2.2.1 own ix y cY nY ret (.code y cY nY ret :: AW) (mRm fr lo) 0 0 n ∧ (Cond.static y).before X.2.2.2.2.1 X.2.2.1 = true :=
  ⟨callB_of n C9.2.2.2.2.1 (mGood hY.2.2.1) rfl rfl rfl (C9.2.2.2.2.1 _ hY.2.1) (C9.2.2.2.2.1 _ hlk) hY.2.2.2 hro, C9.2.2.2.2.1 _ hY.1⟩
theorem cwN (C9 : mCx G X own cc nL) {ret : Option FieldType} (hlk : Cond.methodLinkNest own ix y "MovedBlocks" ∈ NW) (hY : mYv y cY nY ret n) (hro : fr + 1 ≤ R.frames ∧ 8 + (nY + 11) + lo ≤ R.locals) : va_CN R X.2.2.1 X.2.2.2.2.1 own ix y "MovedBlocks" cY nY ret (.code y cY nY ret :: AW) (mRm fr lo) 0 0 n ∧ (Cond.instanceMethod y).before X.2.2.2.2.1 X.2.2.1 = true ∧ (Cond.selects y.cls y y).before X.2.2.2.2.1 X.2.2.1 = true :=
  ⟨va_cnB n C9.2.2.2.2.1 (mGood hY.2.2.2.1) rfl rfl rfl (C9.2.2.2.2.2.1 _ hlk) (C9.2.2.2.2.1 _ hY.2.2.1) hY.2.2.2.2 hro, C9.2.2.2.2.1 _ hY.1, C9.2.2.2.2.1 _ hY.2.1⟩
theorem cwNs (C9 : mCx G X own cc nL) {ret : Option FieldType} (hlk : Cond.methodLinkNest own ix y "MovedBlocks" ∈ NW) (hY : mYs y cY nY ret n) (hro : fr + 1 ≤ R.frames ∧ 8 + (nY + 11) + lo ≤ R.locals) : va_CN R X.2.2.1 X.2.2.2.2.1 own ix y "MovedBlocks" cY nY ret (.code y cY nY ret :: AW) (mRm fr lo) 0 0 n ∧ (Cond.static y).before X.2.2.2.2.1 X.2.2.1 = true ∧ True :=
  ⟨va_cnB n C9.2.2.2.2.1 (mGood hY.2.2.1) rfl rfl rfl (C9.2.2.2.2.2.1 _ hlk) (C9.2.2.2.2.1 _ hY.2.1) hY.2.2.2 hro, C9.2.2.2.2.1 _ hY.1, trivial⟩
theorem callVI (hc : CtI l G y cY nY ty fr lo (.ref b :: As) Z d r0 d0) (hlk : Cond.methodLink own ix y ∈ AW) (hY : mYv y cY nY (some ty) n) (hob : ob Z ci b) (hci : vwCl[ci]? = some q) (hqn : q.1 = y.cls) (hn : As.length = n) (hro : fr + 1 ≤ R.frames ∧ 8 + (nY + 11) + lo ≤ R.locals) (hce : kc + 0 ≤ R.cells ∧ ns + 0 ≤ R.slots) (hst : (rest.map fun v => v.category).sum ≤ 8) (hd : decode cc pc = .ok (.invokevirtual ix, 3)) (kk : mGo l G R X own cc nL kc ns Z (pc + 3) lv (.int r0 :: rest) d0) : mGo l G R X own cc nL kc ns Z pc lv (As.reverse ++ .ref b :: rest) d := by
  intro C9 H locs ls hW hL
  refine va_calli (va_runV (As := As) (rest := rest) ⟨C9.1, C9.2.1, C9.2.2.1, C9.2.2.2.1, C9.2.2.2.2.1⟩ (hc H.size) (cwM C9 hlk hY hro) ⟨mFB, by rw [← hqn]; exact mRecv C9 hW hob hci, fun U hU hw => ⟨rfl, mPre_of C9 hW U hU hw⟩⟩ rfl hn hL.1 rfl (lv_room hst) hd hce) hW.2.2 (fun q _ h => mA_of C9 hW q h) (mA_of C9 hW) (fun r9 u9 t9 H1 locs1 ht9 hv9 hp9 hB9 hz9 hk9 hS9 => ?_)
  obtain ⟨rfl, rfl⟩ := hp9
  exact kk C9 H1 locs1 ls (mAfter C9 hW ht9 hB9 hS9) hL
theorem callVL (hc : CtL l G y cY nY fr lo (.ref b :: As) Z d rL d0) (hlk : Cond.methodLink own ix y ∈ AW) (hY : mYv y cY nY (some .long) n) (hob : ob Z ci b) (hci : vwCl[ci]? = some q) (hqn : q.1 = y.cls) (hn : As.length = n) (hro : fr + 1 ≤ R.frames ∧ 8 + (nY + 11) + lo ≤ R.locals) (hce : kc + 0 ≤ R.cells ∧ ns + 0 ≤ R.slots) (hst : (rest.map fun v => v.category).sum ≤ 8) (hd : decode cc pc = .ok (.invokevirtual ix, 3)) (kk : mGo l G R X own cc nL kc ns Z (pc + 3) lv (.long rL :: rest) d0) : mGo l G R X own cc nL kc ns Z pc lv (As.reverse ++ .ref b :: rest) d := by
  intro C9 H locs ls hW hL
  refine va_calll (va_runV (As := As) (rest := rest) ⟨C9.1, C9.2.1, C9.2.2.1, C9.2.2.2.1, C9.2.2.2.2.1⟩ (hc H.size) (cwM C9 hlk hY hro) ⟨mFB, by rw [← hqn]; exact mRecv C9 hW hob hci, fun U hU hw => ⟨rfl, mPre_of C9 hW U hU hw⟩⟩ rfl hn hL.1 rfl (lv_room hst) hd hce) hW.2.2 (fun q _ h => mA_of C9 hW q h) (mA_of C9 hW) (fun r9 u9 t9 H1 locs1 ht9 hv9 hp9 hB9 hz9 hk9 hS9 => ?_)
  obtain ⟨rfl, rfl⟩ := hp9
  exact kk C9 H1 locs1 ls (mAfter C9 hW ht9 hB9 hS9) hL
theorem callVV (hc : CtV l G y cY nY fr lo (.ref b :: As) Z d d0) (hlk : Cond.methodLink own ix y ∈ AW) (hY : mYv y cY nY none n) (hob : ob Z ci b) (hci : vwCl[ci]? = some q) (hqn : q.1 = y.cls) (hn : As.length = n) (hro : fr + 1 ≤ R.frames ∧ 8 + (nY + 11) + lo ≤ R.locals) (hce : kc + 0 ≤ R.cells ∧ ns + 0 ≤ R.slots) (hst : (rest.map fun v => v.category).sum ≤ 8) (hd : decode cc pc = .ok (.invokevirtual ix, 3)) (kk : mGo l G R X own cc nL kc ns Z (pc + 3) lv rest d0) : mGo l G R X own cc nL kc ns Z pc lv (As.reverse ++ .ref b :: rest) d := by
  intro C9 H locs ls hW hL
  refine va_callv (va_runV (As := As) (rest := rest) ⟨C9.1, C9.2.1, C9.2.2.1, C9.2.2.2.1, C9.2.2.2.2.1⟩ (hc H.size) (cwM C9 hlk hY hro) ⟨mFB, by rw [← hqn]; exact mRecv C9 hW hob hci, fun U hU hw => ⟨rfl, mPre_of C9 hW U hU hw⟩⟩ rfl hn hL.1 rfl (lv_room hst) hd hce) hW.2.2 (fun q _ h => mA_of C9 hW q h) (mA_of C9 hW) (fun u9 t9 H1 locs1 ht9 hv9 hp9 hB9 hz9 hk9 hS9 => ?_)
  subst hp9
  exact kk C9 H1 locs1 ls (mAfter C9 hW ht9 hB9 hS9) hL
theorem callSI (hc : CtI l G y cY nY ty fr lo As Z d r0 d0) (hlk : Cond.methodLink own ix y ∈ AW) (hY : mYs y cY nY (some ty) n) (hn : As.length = n) (hro : fr + 1 ≤ R.frames ∧ 8 + (nY + 11) + lo ≤ R.locals) (hce : kc + 0 ≤ R.cells ∧ ns + 0 ≤ R.slots) (hst : (rest.map fun v => v.category).sum ≤ 8) (hd : decode cc pc = .ok (.invokestatic ix, 3)) (kk : mGo l G R X own cc nL kc ns Z (pc + 3) lv (.int r0 :: rest) d0) : mGo l G R X own cc nL kc ns Z pc lv (As.reverse ++ rest) d := by
  intro C9 H locs ls hW hL
  refine va_calli (va_runS (As := As) (rest := rest) ⟨C9.1, C9.2.1, C9.2.2.1, C9.2.2.2.1, C9.2.2.2.2.1⟩ (hc H.size) (cwMs C9 hlk hY hro) ⟨mFB, fun U hU hw => ⟨rfl, mPre_of C9 hW U hU hw⟩⟩ rfl hn hL.1 rfl (lv_room hst) hd hce) hW.2.2 (fun q _ h => mA_of C9 hW q h) (mA_of C9 hW) (fun r9 u9 t9 H1 locs1 ht9 hv9 hp9 hB9 hz9 hk9 hS9 => ?_)
  obtain ⟨rfl, rfl⟩ := hp9
  exact kk C9 H1 locs1 ls (mAfter C9 hW ht9 hB9 hS9) hL
theorem callSL (hc : CtL l G y cY nY fr lo As Z d rL d0) (hlk : Cond.methodLink own ix y ∈ AW) (hY : mYs y cY nY (some .long) n) (hn : As.length = n) (hro : fr + 1 ≤ R.frames ∧ 8 + (nY + 11) + lo ≤ R.locals) (hce : kc + 0 ≤ R.cells ∧ ns + 0 ≤ R.slots) (hst : (rest.map fun v => v.category).sum ≤ 8) (hd : decode cc pc = .ok (.invokestatic ix, 3)) (kk : mGo l G R X own cc nL kc ns Z (pc + 3) lv (.long rL :: rest) d0) : mGo l G R X own cc nL kc ns Z pc lv (As.reverse ++ rest) d := by
  intro C9 H locs ls hW hL
  refine va_calll (va_runS (As := As) (rest := rest) ⟨C9.1, C9.2.1, C9.2.2.1, C9.2.2.2.1, C9.2.2.2.2.1⟩ (hc H.size) (cwMs C9 hlk hY hro) ⟨mFB, fun U hU hw => ⟨rfl, mPre_of C9 hW U hU hw⟩⟩ rfl hn hL.1 rfl (lv_room hst) hd hce) hW.2.2 (fun q _ h => mA_of C9 hW q h) (mA_of C9 hW) (fun r9 u9 t9 H1 locs1 ht9 hv9 hp9 hB9 hz9 hk9 hS9 => ?_)
  obtain ⟨rfl, rfl⟩ := hp9
  exact kk C9 H1 locs1 ls (mAfter C9 hW ht9 hB9 hS9) hL
theorem callSV (hc : CtV l G y cY nY fr lo As Z d d0) (hlk : Cond.methodLink own ix y ∈ AW) (hY : mYs y cY nY none n) (hn : As.length = n) (hro : fr + 1 ≤ R.frames ∧ 8 + (nY + 11) + lo ≤ R.locals) (hce : kc + 0 ≤ R.cells ∧ ns + 0 ≤ R.slots) (hst : (rest.map fun v => v.category).sum ≤ 8) (hd : decode cc pc = .ok (.invokestatic ix, 3)) (kk : mGo l G R X own cc nL kc ns Z (pc + 3) lv rest d0) : mGo l G R X own cc nL kc ns Z pc lv (As.reverse ++ rest) d := by
  intro C9 H locs ls hW hL
  refine va_callv (va_runS (As := As) (rest := rest) ⟨C9.1, C9.2.1, C9.2.2.1, C9.2.2.2.1, C9.2.2.2.2.1⟩ (hc H.size) (cwMs C9 hlk hY hro) ⟨mFB, fun U hU hw => ⟨rfl, mPre_of C9 hW U hU hw⟩⟩ rfl hn hL.1 rfl (lv_room hst) hd hce) hW.2.2 (fun q _ h => mA_of C9 hW q h) (mA_of C9 hW) (fun u9 t9 H1 locs1 ht9 hv9 hp9 hB9 hz9 hk9 hS9 => ?_)
  subst hp9
  exact kk C9 H1 locs1 ls (mAfter C9 hW ht9 hB9 hS9) hL
theorem callVNI (hc : CtI l G y cY nY ty fr lo (.ref b :: As) Z d r0 d0) (hlk : Cond.methodLinkNest own ix y "MovedBlocks" ∈ NW) (hY : mYv y cY nY (some ty) n) (hob : ob Z ci b) (hci : vwCl[ci]? = some q) (hqn : q.1 = y.cls) (hn : As.length = n) (hro : fr + 1 ≤ R.frames ∧ 8 + (nY + 11) + lo ≤ R.locals) (hce : kc + 0 ≤ R.cells ∧ ns + 0 ≤ R.slots) (hst : (rest.map fun v => v.category).sum ≤ 8) (hd : decode cc pc = .ok (.invokevirtual ix, 3)) (kk : mGo l G R X own cc nL kc ns Z (pc + 3) lv (.int r0 :: rest) d0) : mGo l G R X own cc nL kc ns Z pc lv (As.reverse ++ .ref b :: rest) d := by
  intro C9 H locs ls hW hL
  refine va_calli (va_runVN (As := As) (rest := rest) ⟨C9.1, C9.2.1, C9.2.2.1, C9.2.2.2.1, C9.2.2.2.2.1⟩ (hc H.size) (cwN C9 hlk hY hro) ⟨mFB, by rw [← hqn]; exact mRecv C9 hW hob hci, fun U hU hw => ⟨rfl, mPre_of C9 hW U hU hw⟩⟩ rfl hn hL.1 rfl (lv_room hst) hd hce) hW.2.2 (fun q _ h => mA_of C9 hW q h) (mA_of C9 hW) (fun r9 u9 t9 H1 locs1 ht9 hv9 hp9 hB9 hz9 hk9 hS9 => ?_)
  obtain ⟨rfl, rfl⟩ := hp9
  exact kk C9 H1 locs1 ls (mAfter C9 hW ht9 hB9 hS9) hL
theorem callVNL (hc : CtL l G y cY nY fr lo (.ref b :: As) Z d rL d0) (hlk : Cond.methodLinkNest own ix y "MovedBlocks" ∈ NW) (hY : mYv y cY nY (some .long) n) (hob : ob Z ci b) (hci : vwCl[ci]? = some q) (hqn : q.1 = y.cls) (hn : As.length = n) (hro : fr + 1 ≤ R.frames ∧ 8 + (nY + 11) + lo ≤ R.locals) (hce : kc + 0 ≤ R.cells ∧ ns + 0 ≤ R.slots) (hst : (rest.map fun v => v.category).sum ≤ 8) (hd : decode cc pc = .ok (.invokevirtual ix, 3)) (kk : mGo l G R X own cc nL kc ns Z (pc + 3) lv (.long rL :: rest) d0) : mGo l G R X own cc nL kc ns Z pc lv (As.reverse ++ .ref b :: rest) d := by
  intro C9 H locs ls hW hL
  refine va_calll (va_runVN (As := As) (rest := rest) ⟨C9.1, C9.2.1, C9.2.2.1, C9.2.2.2.1, C9.2.2.2.2.1⟩ (hc H.size) (cwN C9 hlk hY hro) ⟨mFB, by rw [← hqn]; exact mRecv C9 hW hob hci, fun U hU hw => ⟨rfl, mPre_of C9 hW U hU hw⟩⟩ rfl hn hL.1 rfl (lv_room hst) hd hce) hW.2.2 (fun q _ h => mA_of C9 hW q h) (mA_of C9 hW) (fun r9 u9 t9 H1 locs1 ht9 hv9 hp9 hB9 hz9 hk9 hS9 => ?_)
  obtain ⟨rfl, rfl⟩ := hp9
  exact kk C9 H1 locs1 ls (mAfter C9 hW ht9 hB9 hS9) hL
theorem callVNV (hc : CtV l G y cY nY fr lo (.ref b :: As) Z d d0) (hlk : Cond.methodLinkNest own ix y "MovedBlocks" ∈ NW) (hY : mYv y cY nY none n) (hob : ob Z ci b) (hci : vwCl[ci]? = some q) (hqn : q.1 = y.cls) (hn : As.length = n) (hro : fr + 1 ≤ R.frames ∧ 8 + (nY + 11) + lo ≤ R.locals) (hce : kc + 0 ≤ R.cells ∧ ns + 0 ≤ R.slots) (hst : (rest.map fun v => v.category).sum ≤ 8) (hd : decode cc pc = .ok (.invokevirtual ix, 3)) (kk : mGo l G R X own cc nL kc ns Z (pc + 3) lv rest d0) : mGo l G R X own cc nL kc ns Z pc lv (As.reverse ++ .ref b :: rest) d := by
  intro C9 H locs ls hW hL
  refine va_callv (va_runVN (As := As) (rest := rest) ⟨C9.1, C9.2.1, C9.2.2.1, C9.2.2.2.1, C9.2.2.2.2.1⟩ (hc H.size) (cwN C9 hlk hY hro) ⟨mFB, by rw [← hqn]; exact mRecv C9 hW hob hci, fun U hU hw => ⟨rfl, mPre_of C9 hW U hU hw⟩⟩ rfl hn hL.1 rfl (lv_room hst) hd hce) hW.2.2 (fun q _ h => mA_of C9 hW q h) (mA_of C9 hW) (fun u9 t9 H1 locs1 ht9 hv9 hp9 hB9 hz9 hk9 hS9 => ?_)
  subst hp9
  exact kk C9 H1 locs1 ls (mAfter C9 hW ht9 hB9 hS9) hL
theorem callSNI (hc : CtI l G y cY nY ty fr lo As Z d r0 d0) (hlk : Cond.methodLinkNest own ix y "MovedBlocks" ∈ NW) (hY : mYs y cY nY (some ty) n) (hn : As.length = n) (hro : fr + 1 ≤ R.frames ∧ 8 + (nY + 11) + lo ≤ R.locals) (hce : kc + 0 ≤ R.cells ∧ ns + 0 ≤ R.slots) (hst : (rest.map fun v => v.category).sum ≤ 8) (hd : decode cc pc = .ok (.invokestatic ix, 3)) (kk : mGo l G R X own cc nL kc ns Z (pc + 3) lv (.int r0 :: rest) d0) : mGo l G R X own cc nL kc ns Z pc lv (As.reverse ++ rest) d := by
  intro C9 H locs ls hW hL
  refine va_calli (va_runSN (As := As) (rest := rest) ⟨C9.1, C9.2.1, C9.2.2.1, C9.2.2.2.1, C9.2.2.2.2.1⟩ (hc H.size) (cwNs C9 hlk hY hro) ⟨mFB, fun U hU hw => ⟨rfl, mPre_of C9 hW U hU hw⟩⟩ rfl hn hL.1 rfl (lv_room hst) hd hce) hW.2.2 (fun q _ h => mA_of C9 hW q h) (mA_of C9 hW) (fun r9 u9 t9 H1 locs1 ht9 hv9 hp9 hB9 hz9 hk9 hS9 => ?_)
  obtain ⟨rfl, rfl⟩ := hp9
  exact kk C9 H1 locs1 ls (mAfter C9 hW ht9 hB9 hS9) hL
theorem callSNL (hc : CtL l G y cY nY fr lo As Z d rL d0) (hlk : Cond.methodLinkNest own ix y "MovedBlocks" ∈ NW) (hY : mYs y cY nY (some .long) n) (hn : As.length = n) (hro : fr + 1 ≤ R.frames ∧ 8 + (nY + 11) + lo ≤ R.locals) (hce : kc + 0 ≤ R.cells ∧ ns + 0 ≤ R.slots) (hst : (rest.map fun v => v.category).sum ≤ 8) (hd : decode cc pc = .ok (.invokestatic ix, 3)) (kk : mGo l G R X own cc nL kc ns Z (pc + 3) lv (.long rL :: rest) d0) : mGo l G R X own cc nL kc ns Z pc lv (As.reverse ++ rest) d := by
  intro C9 H locs ls hW hL
  refine va_calll (va_runSN (As := As) (rest := rest) ⟨C9.1, C9.2.1, C9.2.2.1, C9.2.2.2.1, C9.2.2.2.2.1⟩ (hc H.size) (cwNs C9 hlk hY hro) ⟨mFB, fun U hU hw => ⟨rfl, mPre_of C9 hW U hU hw⟩⟩ rfl hn hL.1 rfl (lv_room hst) hd hce) hW.2.2 (fun q _ h => mA_of C9 hW q h) (mA_of C9 hW) (fun r9 u9 t9 H1 locs1 ht9 hv9 hp9 hB9 hz9 hk9 hS9 => ?_)
  obtain ⟨rfl, rfl⟩ := hp9
  exact kk C9 H1 locs1 ls (mAfter C9 hW ht9 hB9 hS9) hL
theorem callSNV (hc : CtV l G y cY nY fr lo As Z d d0) (hlk : Cond.methodLinkNest own ix y "MovedBlocks" ∈ NW) (hY : mYs y cY nY none n) (hn : As.length = n) (hro : fr + 1 ≤ R.frames ∧ 8 + (nY + 11) + lo ≤ R.locals) (hce : kc + 0 ≤ R.cells ∧ ns + 0 ≤ R.slots) (hst : (rest.map fun v => v.category).sum ≤ 8) (hd : decode cc pc = .ok (.invokestatic ix, 3)) (kk : mGo l G R X own cc nL kc ns Z (pc + 3) lv rest d0) : mGo l G R X own cc nL kc ns Z pc lv (As.reverse ++ rest) d := by
  intro C9 H locs ls hW hL
  refine va_callv (va_runSN (As := As) (rest := rest) ⟨C9.1, C9.2.1, C9.2.2.1, C9.2.2.2.1, C9.2.2.2.2.1⟩ (hc H.size) (cwNs C9 hlk hY hro) ⟨mFB, fun U hU hw => ⟨rfl, mPre_of C9 hW U hU hw⟩⟩ rfl hn hL.1 rfl (lv_room hst) hd hce) hW.2.2 (fun q _ h => mA_of C9 hW q h) (mA_of C9 hW) (fun u9 t9 H1 locs1 ht9 hv9 hp9 hB9 hz9 hk9 hS9 => ?_)
  subst hp9
  exact kk C9 H1 locs1 ls (mAfter C9 hW ht9 hB9 hS9) hL
end
