theorem mP_at {G : mG} {Z : mZ} {d : mD} {a : Nat} {e : va_E} (h : a ∈ Z.1) (he : wE G Z d a = e) : ∃ k : Nat, (mP G Z d)[k]? = some (a, e) := by
  obtain ⟨k, hk⟩ := va_pl_get (X := []) (f := wE G Z d) h
  exact ⟨k, by rw [← he]; exact hk⟩
theorem mP_set {A : Nat → Prop} {G : mG} {Z Z' : mZ} {d d' : mD} {a k : Nat} {e e0 : va_E} (hD : va_D A (mP G Z d)) (h : a ∈ Z.1) (hk : (mP G Z d)[k]? = some (a, e0)) (he0 : wE G Z d a = e0) (hZ : Z'.1 = Z.1) (ha : wE G Z' d' a = e) (hb : ∀ b, b ≠ a → wE G Z' d' b = wE G Z d b) : (mP G Z d).set k (a, e) = mP G Z' d' := by
  subst he0
  have h1 := va_pl_set (X := []) (e := e) hD h hk
  have h2 : (mP G Z d).set k (a, e) = va_pl Z.1 (va_up (wE G Z d) a e) := h1
  rw [h2]
  show _ = va_pl Z'.1 (wE G Z' d')
  rw [hZ]
  refine va_pl_congr fun b => ?_
  by_cases hba : b = a
  · subst hba
    rw [ha]
    simp [va_up]
  · rw [hb b hba]
    simp [va_up, hba]
section
variable {l : Launch} {G : mG} {R : Room} {X : mF} {own : String} {cc : ByteArray} {nL kc ns : Nat} {Z : mZ} {pc : Nat} {lv : List (Option Value)} {rest : List Value} {d : mD}
theorem g_get {ref C : String} {T : u_T} {N ci ix fk a : Nat} {fs : List Value} {v : Value} (hin : ∀ w ∈ u_ws C T N, w ∈ AW) (hc : vwCl[ci]? = some (C, T, N)) (hk : fk < N) (hlink : Cond.fieldLink own ix ref (T fk).2.1 (T fk).2.2.1 ∈ AW) (href : (T fk).1 = ref) (hm : a ∈ Z.1) (he : wE G Z d a = .inr (ci, fs)) (hv : fs[fk]? = some v) (hd : decode cc pc = .ok (.getfield ix, 3))
    (kk : mGo l G R X own cc nL kc ns Z (pc + 3) lv (v :: rest) d) : mGo l G R X own cc nL kc ns Z pc lv (.ref a :: rest) d := by
  intro C9 H locs ls hW hL
  obtain ⟨k9, hk9⟩ := mP_at hm he
  obtain ⟨hx, hb, hml, hown, hA, hN, hK, hO, hq⟩ := id C9
  exact va_get hx hb hA hin hown hK hW.1 k9 hk9 hc fk hk (hA _ hlink) (by rw [href]; exact fun _ h => h) hv hd (kk C9 H locs ls hW hL)
theorem g_getN {ref C : String} {T : u_T} {N ci ix fk a : Nat} {fs : List Value} {v : Value} (hin : ∀ w ∈ u_ws C T N, w ∈ AW) (hc : vwCl[ci]? = some (C, T, N)) (hk : fk < N) (hlink : Cond.fieldLinkNest own ix ref (T fk).2.1 (T fk).2.2.1 "MovedBlocks" ∈ NW) (href : (T fk).1 = ref) (hm : a ∈ Z.1) (he : wE G Z d a = .inr (ci, fs)) (hv : fs[fk]? = some v) (hd : decode cc pc = .ok (.getfield ix, 3))
    (kk : mGo l G R X own cc nL kc ns Z (pc + 3) lv (v :: rest) d) : mGo l G R X own cc nL kc ns Z pc lv (.ref a :: rest) d := by
  intro C9 H locs ls hW hL
  obtain ⟨k9, hk9⟩ := mP_at hm he
  obtain ⟨hx, hb, hml, hown, hA, hN, hK, hO, hq⟩ := id C9
  exact va_getN hx hb hA hin hown hK hW.1 k9 hk9 hc fk hk (va_Nw.use rfl (hN _ hlink)) (by rw [href]; exact fun _ h => h) hv hd (kk C9 H locs ls hW hL)
theorem g_put {ref C : String} {T : u_T} {tyq : Nat → FieldType} {N ci ix fk a : Nat} {fs : List Value} {v : Value} {ty : FieldType} {Z' : mZ} {d' : mD} (hin : ∀ w ∈ u_ws C T N, w ∈ AW) (hty : ∀ k, k < N → parseFieldDescriptor (T k).2.2.1 = some (tyq k)) (hnm : ∀ a, a < N → ∀ b, b < N → a ≠ b → (T a).2.1 ≠ (T b).2.1) (hc : vwCl[ci]? = some (C, T, N)) (hk : fk < N) (hlink : Cond.fieldLink own ix ref (T fk).2.1 (T fk).2.2.1 ∈ AW) (href : (T fk).1 = ref) (hfin : (T fk).2.2.2 = false) (hpd : parseFieldDescriptor (T fk).2.2.1 = some ty) (hn : narrow ty v = v) (hfit : fits ty v = true) (hl : fk < fs.length)
    (hm : a ∈ Z.1) (he : wE G Z d a = .inr (ci, fs)) (hZ : Z'.1 = Z.1) (ha : wE G Z' d' a = .inr (ci, fs.set fk v)) (hb' : ∀ b, b ≠ a → wE G Z' d' b = wE G Z d b) (hd : decode cc pc = .ok (.putfield ix, 3))
    (kk : mGo l G R X own cc nL kc ns Z' (pc + 3) lv rest d') : mGo l G R X own cc nL kc ns Z pc lv (v :: .ref a :: rest) d := by
  intro C9 H locs ls hW hL
  obtain ⟨k9, hk9⟩ := mP_at hm he
  obtain ⟨hx, hb, hml, hown, hA, hN, hK, hO, hq⟩ := id C9
  refine va_put hx hb hA hin tyq hty hnm hown hK hW.1 hW.2.1 hW.2.2 k9 hk9 hc fk hk (hA _ hlink) (by rw [href]; exact fun _ h => h) hfin hpd hn hfit hl hd (fun H1 locs1 hP1 hD1 hS1 => ?_)
  have e9 := mP_set (Z' := Z') (d' := d') hW.2.1 hm hk9 he hZ ha hb'
  rw [e9] at hP1 hD1
  exact kk C9 H1 locs1 ls ⟨hP1, hD1, hS1⟩ hL
theorem g_putN {ref C : String} {T : u_T} {tyq : Nat → FieldType} {N ci ix fk a : Nat} {fs : List Value} {v : Value} {ty : FieldType} {Z' : mZ} {d' : mD} (hin : ∀ w ∈ u_ws C T N, w ∈ AW) (hty : ∀ k, k < N → parseFieldDescriptor (T k).2.2.1 = some (tyq k)) (hnm : ∀ a, a < N → ∀ b, b < N → a ≠ b → (T a).2.1 ≠ (T b).2.1) (hc : vwCl[ci]? = some (C, T, N)) (hk : fk < N) (hlink : Cond.fieldLinkNest own ix ref (T fk).2.1 (T fk).2.2.1 "MovedBlocks" ∈ NW) (href : (T fk).1 = ref) (hfin : (T fk).2.2.2 = false) (hpd : parseFieldDescriptor (T fk).2.2.1 = some ty) (hn : narrow ty v = v) (hfit : fits ty v = true) (hl : fk < fs.length)
    (hm : a ∈ Z.1) (he : wE G Z d a = .inr (ci, fs)) (hZ : Z'.1 = Z.1) (ha : wE G Z' d' a = .inr (ci, fs.set fk v)) (hb' : ∀ b, b ≠ a → wE G Z' d' b = wE G Z d b) (hd : decode cc pc = .ok (.putfield ix, 3))
    (kk : mGo l G R X own cc nL kc ns Z' (pc + 3) lv rest d') : mGo l G R X own cc nL kc ns Z pc lv (v :: .ref a :: rest) d := by
  intro C9 H locs ls hW hL
  obtain ⟨k9, hk9⟩ := mP_at hm he
  obtain ⟨hx, hb, hml, hown, hA, hN, hK, hO, hq⟩ := id C9
  refine va_putN hx hb hA hin tyq hty hnm hown hK hW.1 hW.2.1 hW.2.2 k9 hk9 hc fk hk (va_Nw.use rfl (hN _ hlink)) (by rw [href]; exact fun _ h => h) hfin hpd hn hfit hl hd (fun H1 locs1 hP1 hD1 hS1 => ?_)
  have e9 := mP_set (Z' := Z') (d' := d') hW.2.1 hm hk9 he hZ ha hb'
  rw [e9] at hP1 hD1
  exact kk C9 H1 locs1 ls ⟨hP1, hD1, hS1⟩ hL
theorem wE_ar {a n : Nat} (h : ar Z 10 a n) : wE G Z d a = .inl (G.2.1, n, .inl (gA d a)) := by simp [wE, h.2.1, h.2.2]
theorem wE_arJ {a n : Nat} (h : ar Z 11 a n) : wE G Z d a = .inl (G.2.2.1, n, .inr (.inl (gJ d a))) := by simp [wE, h.2.1, h.2.2]
theorem wE_arS {a n : Nat} (h : ar Z 12 a n) : wE G Z d a = .inl (G.2.2.2.1, n, .inr (.inr (.inr (.inr (gO d a))))) := by simp [wE, h.2.1, h.2.2]
theorem wE_arT {a n : Nat} (h : ar Z 13 a n) : wE G Z d a = .inl (G.2.2.2.2.1, n, .inr (.inr (.inr (.inr (gO d a))))) := by simp [wE, h.2.1, h.2.2]
theorem wE_tA {a b : Nat} {f : Nat → Int32} (hb : b ≠ a) : wE G Z (tA d a f) b = wE G Z d b := by
  have h1 : gA (tA d a f) b = gA d b := by simp [gA, tA, hb]
  have h2 : ∀ g, gI (tA d a f) g b = gI d g b := fun g => rfl
  have h3 : gJ (tA d a f) b = gJ d b := rfl
  have h4 : gO (tA d a f) b = gO d b := rfl
  simp only [wE, h1, h2, h3, h4]
theorem wE_tJ {a b : Nat} {f : Nat → Int64} (hb : b ≠ a) : wE G Z (tJ d a f) b = wE G Z d b := by
  have h1 : gJ (tJ d a f) b = gJ d b := by simp [gJ, tJ, hb]
  have h2 : ∀ g, gI (tJ d a f) g b = gI d g b := fun g => rfl
  have h3 : gA (tJ d a f) b = gA d b := rfl
  have h4 : gO (tJ d a f) b = gO d b := rfl
  simp only [wE, h1, h2, h3, h4]
theorem wE_tO {a b : Nat} {f : Nat → Option Nat} (hb : b ≠ a) : wE G Z (tO d a f) b = wE G Z d b := by
  have h1 : gO (tO d a f) b = gO d b := by simp [gO, tO, hb]
  have h2 : ∀ g, gI (tO d a f) g b = gI d g b := fun g => rfl
  have h3 : gJ (tO d a f) b = gJ d b := rfl
  have h4 : gA (tO d a f) b = gA d b := rfl
  simp only [wE, h1, h2, h3, h4]
theorem wE_sI {a b fn : Nat} {v : Int32} (hb : b ≠ a) : wE G Z (sI d fn a v) b = wE G Z d b := by
  have h2 : ∀ g, gI (sI d fn a v) g b = gI d g b := fun g => by simp [gI, sI, hb]
  have h3 : gJ (sI d fn a v) b = gJ d b := rfl
  have h4 : gA (sI d fn a v) b = gA d b := rfl
  have h5 : gO (sI d fn a v) b = gO d b := rfl
  simp only [wE, h2, h3, h4, h5]
theorem gA_tA (d : mD) (a b : Nat) (f : Nat → Int32) : gA (tA d a f) b = if b = a then f else gA d b := rfl
theorem gJ_tJ (d : mD) (a b : Nat) (f : Nat → Int64) : gJ (tJ d a f) b = if b = a then f else gJ d b := rfl
theorem gO_tO (d : mD) (a b : Nat) (f : Nat → Option Nat) : gO (tO d a f) b = if b = a then f else gO d b := rfl
theorem gI_sI (d : mD) (f g a b : Nat) (v : Int32) : gI (sI d f a v) g b = if g = f ∧ b = a then v else gI d g b := rfl
theorem gI_tA (d : mD) (a : Nat) (f : Nat → Int32) (g b : Nat) : gI (tA d a f) g b = gI d g b := rfl
theorem gI_tJ (d : mD) (a : Nat) (f : Nat → Int64) (g b : Nat) : gI (tJ d a f) g b = gI d g b := rfl
theorem gI_tO (d : mD) (a : Nat) (f : Nat → Option Nat) (g b : Nat) : gI (tO d a f) g b = gI d g b := rfl
theorem gA_sI (d : mD) (f a b : Nat) (v : Int32) : gA (sI d f a v) b = gA d b := rfl
theorem gJ_sI (d : mD) (f a b : Nat) (v : Int32) : gJ (sI d f a v) b = gJ d b := rfl
theorem gO_sI (d : mD) (f a b : Nat) (v : Int32) : gO (sI d f a v) b = gO d b := rfl
theorem gJ_tA (d : mD) (a b : Nat) (f : Nat → Int32) : gJ (tA d a f) b = gJ d b := rfl
theorem gO_tA (d : mD) (a b : Nat) (f : Nat → Int32) : gO (tA d a f) b = gO d b := rfl
theorem gA_tJ (d : mD) (a b : Nat) (f : Nat → Int64) : gA (tJ d a f) b = gA d b := rfl
theorem gO_tJ (d : mD) (a b : Nat) (f : Nat → Int64) : gO (tJ d a f) b = gO d b := rfl
theorem gA_tO (d : mD) (a b : Nat) (f : Nat → Option Nat) : gA (tO d a f) b = gA d b := rfl
theorem gJ_tO (d : mD) (a b : Nat) (f : Nat → Option Nat) : gJ (tO d a f) b = gJ d b := rfl
/-- a place of an int array, by its number -/
theorem g_iald {a n : Nat} {i : Int32} (j : Nat) (h : ar Z 10 a n) (hj : j < n) (hi : i = nI j) (hn : n < 2 ^ 31) (hd : decode cc pc = .ok (.iaload, 1))
    (kk : mGo l G R X own cc nL kc ns Z (pc + 1) lv (.int (gA d a j) :: rest) d) : mGo l G R X own cc nL kc ns Z pc lv (.int i :: .ref a :: rest) d := by
  intro C9 H locs ls hW hL
  obtain ⟨k9, hk9⟩ := mP_at (d := d) h.1 (wE_ar (G := G) h)
  obtain ⟨hx, hb, hml, hown, hA, hN, hK, hO, hq⟩ := id C9
  subst hi
  refine va_iald hx hb hK hW.1 k9 0 hk9 rfl (vp_in_nI hj hn) hd ?_
  rw [nI_clamp (Nat.lt_trans hj hn)]
  exact kk C9 H locs ls hW hL
theorem g_lald {a n : Nat} {i : Int32} (j : Nat) (h : ar Z 11 a n) (hj : j < n) (hi : i = nI j) (hn : n < 2 ^ 31) (hd : decode cc pc = .ok (.laload, 1))
    (kk : mGo l G R X own cc nL kc ns Z (pc + 1) lv (.long (gJ d a j) :: rest) d) : mGo l G R X own cc nL kc ns Z pc lv (.int i :: .ref a :: rest) d := by
  intro C9 H locs ls hW hL
  obtain ⟨k9, hk9⟩ := mP_at (d := d) h.1 (wE_arJ (G := G) h)
  obtain ⟨hx, hb, hml, hown, hA, hN, hK, hO, hq⟩ := id C9
  subst hi
  refine va_lald hx hb hK hW.1 k9 1 hk9 rfl (vp_in_nI hj hn) hd ?_
  rw [nI_clamp (Nat.lt_trans hj hn)]
  exact kk C9 H locs ls hW hL
theorem g_iast {a n : Nat} {i x : Int32} (j : Nat) (h : ar Z 10 a n) (hj : j < n) (hi : i = nI j) (hn : n < 2 ^ 31) (hd : decode cc pc = .ok (.iastore, 1))
    (kk : mGo l G R X own cc nL kc ns Z (pc + 1) lv rest (tA d a (upd (gA d a) j x))) : mGo l G R X own cc nL kc ns Z pc lv (.int x :: .int i :: .ref a :: rest) d := by
  intro C9 H locs ls hW hL
  obtain ⟨k9, hk9⟩ := mP_at (d := d) h.1 (wE_ar (G := G) h)
  obtain ⟨hx, hb, hml, hown, hA, hN, hK, hO, hq⟩ := id C9
  subst hi
  refine va_iast hx hb hK hW.1 hW.2.1 hW.2.2 k9 0 hk9 rfl (vp_in_nI hj hn) hd (fun H1 locs1 hP1 hD1 hS1 => ?_)
  rw [nI_clamp (Nat.lt_trans hj hn)] at hP1 hD1
  have e9 := mP_set (Z' := Z) (d' := tA d a (upd (gA d a) j x)) hW.2.1 h.1 hk9 (wE_ar h) rfl (wE_ar h) (fun b hb => wE_tA hb)
  rw [gA_tA, if_pos rfl] at e9
  rw [e9] at hP1 hD1
  exact kk C9 H1 locs1 ls ⟨hP1, hD1, hS1⟩ hL
theorem g_last {a n : Nat} {i : Int32} {x : Int64} (j : Nat) (h : ar Z 11 a n) (hj : j < n) (hi : i = nI j) (hn : n < 2 ^ 31) (hd : decode cc pc = .ok (.lastore, 1))
    (kk : mGo l G R X own cc nL kc ns Z (pc + 1) lv rest (tJ d a (vp_updL (gJ d a) j x))) : mGo l G R X own cc nL kc ns Z pc lv (.long x :: .int i :: .ref a :: rest) d := by
  intro C9 H locs ls hW hL
  obtain ⟨k9, hk9⟩ := mP_at (d := d) h.1 (wE_arJ (G := G) h)
  obtain ⟨hx, hb, hml, hown, hA, hN, hK, hO, hq⟩ := id C9
  subst hi
  refine va_last hx hb hK hW.1 hW.2.1 hW.2.2 k9 1 hk9 rfl (vp_in_nI hj hn) hd (fun H1 locs1 hP1 hD1 hS1 => ?_)
  rw [nI_clamp (Nat.lt_trans hj hn)] at hP1 hD1
  have e9 := mP_set (Z' := Z) (d' := tJ d a (vp_updL (gJ d a) j x)) hW.2.1 h.1 hk9 (wE_arJ h) rfl (wE_arJ h) (fun b hb => wE_tJ hb)
  rw [gJ_tJ, if_pos rfl] at e9
  rw [e9] at hP1 hD1
  exact kk C9 H1 locs1 ls ⟨hP1, hD1, hS1⟩ hL
theorem g_aldS {a n b : Nat} {i : Int32} (j : Nat) (h : ar Z 12 a n) (hj : j < n) (hi : i = nI j) (hn : n < 2 ^ 31) (hv : gO d a j = some b) (hd : decode cc pc = .ok (.aaload, 1))
    (kk : mGo l G R X own cc nL kc ns Z (pc + 1) lv (.ref b :: rest) d) : mGo l G R X own cc nL kc ns Z pc lv (.int i :: .ref a :: rest) d := by
  intro C9 H locs ls hW hL
  obtain ⟨k9, hk9⟩ := mP_at (d := d) h.1 (wE_arS (G := G) h)
  obtain ⟨hx, hb, hml, hown, hA, hN, hK, hO, hq⟩ := id C9
  subst hi
  refine va_aldq hx hb hK hW.1 k9 2 hk9 rfl (vp_in_nI hj hn) hd ?_
  rw [nI_clamp (Nat.lt_trans hj hn), hv]
  exact kk C9 H locs ls hW hL
theorem g_aldT {a n b : Nat} {i : Int32} (j : Nat) (h : ar Z 13 a n) (hj : j < n) (hi : i = nI j) (hn : n < 2 ^ 31) (hv : gO d a j = some b) (hd : decode cc pc = .ok (.aaload, 1))
    (kk : mGo l G R X own cc nL kc ns Z (pc + 1) lv (.ref b :: rest) d) : mGo l G R X own cc nL kc ns Z pc lv (.int i :: .ref a :: rest) d := by
  intro C9 H locs ls hW hL
  obtain ⟨k9, hk9⟩ := mP_at (d := d) h.1 (wE_arT (G := G) h)
  obtain ⟨hx, hb, hml, hown, hA, hN, hK, hO, hq⟩ := id C9
  subst hi
  refine va_aldq hx hb hK hW.1 k9 3 hk9 rfl (vp_in_nI hj hn) hd ?_
  rw [nI_clamp (Nat.lt_trans hj hn), hv]
  exact kk C9 H locs ls hW hL
theorem wE_ob3 {a : Nat} (h : ob Z 3 a) : wE G Z d a = .inr (3, [va_rf (rf Z 96 a), va_rf (rf Z 97 a), .int (gI d 98 a), .int (gI d 99 a)]) := by simp [wE, h.2]
theorem wE_ob5 {a : Nat} (h : ob Z 5 a) : wE G Z d a = .inr (5, [va_rf (rf Z 160 a), .int (gI d 161 a), .int (gI d 162 a), .int (gI d 163 a)]) := by simp [wE, h.2]
theorem g_astS {a n b : Nat} {i : Int32} (j : Nat) (h : ar Z 12 a n) (hj : j < n) (hi : i = nI j) (hn : n < 2 ^ 31) (hv : ob Z 3 b) (hd : decode cc pc = .ok (.aastore, 1))
    (kk : mGo l G R X own cc nL kc ns Z (pc + 1) lv rest (tO d a (va_up (gO d a) j (some b)))) : mGo l G R X own cc nL kc ns Z pc lv (.ref b :: .int i :: .ref a :: rest) d := by
  intro C9 H locs ls hW hL
  obtain ⟨k9, hk9⟩ := mP_at (d := d) h.1 (wE_arS (G := G) h)
  obtain ⟨k8, hk8⟩ := mP_at (d := d) hv.1 (wE_ob3 (G := G) hv)
  obtain ⟨hx, hb, hml, hown, hA, hN, hK, hO, hq⟩ := id C9
  subst hi
  refine va_astq hx hb hK hW.1 hW.2.1 hW.2.2 k9 2 k8 3 hk9 (r := (RX3, TX3, 4)) rfl hk8 rfl (vp_in_nI hj hn) hd (fun H1 locs1 hP1 hD1 hS1 => ?_)
  rw [nI_clamp (Nat.lt_trans hj hn)] at hP1 hD1
  have e9 := mP_set (Z' := Z) (d' := tO d a (va_up (gO d a) j (some b))) hW.2.1 h.1 hk9 (wE_arS h) rfl (wE_arS h) (fun b hb => wE_tO hb)
  rw [gO_tO, if_pos rfl] at e9
  rw [e9] at hP1 hD1
  exact kk C9 H1 locs1 ls ⟨hP1, hD1, hS1⟩ hL
theorem g_astT {a n b : Nat} {i : Int32} (j : Nat) (h : ar Z 13 a n) (hj : j < n) (hi : i = nI j) (hn : n < 2 ^ 31) (hv : ob Z 5 b) (hd : decode cc pc = .ok (.aastore, 1))
    (kk : mGo l G R X own cc nL kc ns Z (pc + 1) lv rest (tO d a (va_up (gO d a) j (some b)))) : mGo l G R X own cc nL kc ns Z pc lv (.ref b :: .int i :: .ref a :: rest) d := by
  intro C9 H locs ls hW hL
  obtain ⟨k9, hk9⟩ := mP_at (d := d) h.1 (wE_arT (G := G) h)
  obtain ⟨k8, hk8⟩ := mP_at (d := d) hv.1 (wE_ob5 (G := G) hv)
  obtain ⟨hx, hb, hml, hown, hA, hN, hK, hO, hq⟩ := id C9
  subst hi
  refine va_astq hx hb hK hW.1 hW.2.1 hW.2.2 k9 3 k8 5 hk9 (r := (RX5, TX5, 4)) rfl hk8 rfl (vp_in_nI hj hn) hd (fun H1 locs1 hP1 hD1 hS1 => ?_)
  rw [nI_clamp (Nat.lt_trans hj hn)] at hP1 hD1
  have e9 := mP_set (Z' := Z) (d' := tO d a (va_up (gO d a) j (some b))) hW.2.1 h.1 hk9 (wE_arT h) rfl (wE_arT h) (fun b hb => wE_tO hb)
  rw [gO_tO, if_pos rfl] at e9
  rw [e9] at hP1 hD1
  exact kk C9 H1 locs1 ls ⟨hP1, hD1, hS1⟩ hL
/-- the class's own order of moves -/
theorem g_ordS {ix : Nat} (hlink : Cond.fieldLink own ix "MovedBlocks" "ORDER" "[I" ∈ AW) (hd : decode cc pc = .ok (.getstatic ix, 3))
    (kk : mGo l G R X own cc nL kc ns Z (pc + 3) lv (.ref G.2.2.2.2.2 :: rest) d) : mGo l G R X own cc nL kc ns Z pc lv rest d := by
  intro C9 H locs ls hW hL
  obtain ⟨hx, hb, hml, hown, hA, hN, hK, hO, hq⟩ := id C9
  exact va_gets hx hb hO.1 hW.2.2 hown (hA _ hlink) (fun _ h => h) hd (kk C9 H locs ls hW hL)
theorem g_ordN {ix : Nat} (hlink : Cond.fieldLinkNest own ix "MovedBlocks" "ORDER" "[I" "MovedBlocks" ∈ NW) (hd : decode cc pc = .ok (.getstatic ix, 3))
    (kk : mGo l G R X own cc nL kc ns Z (pc + 3) lv (.ref G.2.2.2.2.2 :: rest) d) : mGo l G R X own cc nL kc ns Z pc lv rest d := by
  intro C9 H locs ls hW hL
  obtain ⟨hx, hb, hml, hown, hA, hN, hK, hO, hq⟩ := id C9
  exact va_getsN hx hb hO.1 hW.2.2 hown (va_Nw.use rfl (hN _ hlink)) (fun _ h => h) hd (kk C9 H locs ls hW hL)
theorem g_ordL {i : Int32} (j : Nat) (hj : j < 49) (hi : i = nI j) (hd : decode cc pc = .ok (.iaload, 1))
    (kk : mGo l G R X own cc nL kc ns Z (pc + 1) lv (.int (ordF j) :: rest) d) : mGo l G R X own cc nL kc ns Z pc lv (.int i :: .ref G.2.2.2.2.2 :: rest) d := by
  intro C9 H locs ls hW hL
  obtain ⟨hx, hb, hml, hown, hA, hN, hK, hO, hq⟩ := id C9
  obtain ⟨cell, h1, h2, h3, h4, h5, h6, h7⟩ := hO.2
  subst hi
  have hcl : (nI j).toNatClampNeg = j := nI_clamp (by omega)
  refine W.iald (v := .int (ordF j)) hx hb (cell := cell) ?_ h2 h3 ?_ ?_ rfl rfl hd (kk C9 H locs ls hW hL)
  · rw [hW.2.2.2.1 _ (Array.getElem?_eq_some_iff.mp h1).1 h7]; exact h1
  · rw [hcl]; rintro (z | z)
    · exact nI_pos (n := j) (by omega) z
    · omega
  · rw [hcl]; exact h6 j hj
end
