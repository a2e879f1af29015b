def zN (Z : mZ) (q k n : Nat) : mZ := (Z.1 ++ [q], fun a => if a = q then k else mK Z a, fun f a => if a = q then none else rf Z f a, fun a => if a = q then n else mN Z a)
def dN (d : mD) (q : Nat) : mD := (fun f a => if a = q then 0 else gI d f a, fun a => if a = q then (fun _ => 0) else gA d a, fun a => if a = q then (fun _ => 0) else gJ d a, fun a => if a = q then (fun _ => none) else gO d a)
def zR (Z : mZ) (f a c : Nat) : mZ := (Z.1, Z.2.1, fun g b => if g = f ∧ b = a then some c else rf Z g b, Z.2.2.2)
theorem mK_zN (Z : mZ) (q k n b : Nat) : mK (zN Z q k n) b = if b = q then k else mK Z b := rfl
theorem rf_zN (Z : mZ) (q k n f b : Nat) : rf (zN Z q k n) f b = if b = q then none else rf Z f b := rfl
theorem mN_zN (Z : mZ) (q k n b : Nat) : mN (zN Z q k n) b = if b = q then n else mN Z b := rfl
theorem gI_dN (d : mD) (q f b : Nat) : gI (dN d q) f b = if b = q then 0 else gI d f b := rfl
theorem gA_dN (d : mD) (q b : Nat) : gA (dN d q) b = if b = q then (fun _ => 0) else gA d b := rfl
theorem gJ_dN (d : mD) (q b : Nat) : gJ (dN d q) b = if b = q then (fun _ => 0) else gJ d b := rfl
theorem gO_dN (d : mD) (q b : Nat) : gO (dN d q) b = if b = q then (fun _ => none) else gO d b := rfl
theorem mK_zR (Z : mZ) (f a c b : Nat) : mK (zR Z f a c) b = mK Z b := rfl
theorem mN_zR (Z : mZ) (f a c b : Nat) : mN (zR Z f a c) b = mN Z b := rfl
theorem rf_zR (Z : mZ) (f a c g b : Nat) : rf (zR Z f a c) g b = if g = f ∧ b = a then some c else rf Z g b := rfl
theorem wE_zN {G : mG} {Z : mZ} {d : mD} {q k n b : Nat} (hb : b ≠ q) : wE G (zN Z q k n) (dN d q) b = wE G Z d b := by
  have h1 : mK (zN Z q k n) b = mK Z b := by rw [mK_zN, if_neg hb]
  have h2 : ∀ f, rf (zN Z q k n) f b = rf Z f b := fun f => by rw [rf_zN, if_neg hb]
  have h3 : mN (zN Z q k n) b = mN Z b := by rw [mN_zN, if_neg hb]
  have h4 : ∀ f, gI (dN d q) f b = gI d f b := fun f => by rw [gI_dN, if_neg hb]
  have h5 : gA (dN d q) b = gA d b := by rw [gA_dN, if_neg hb]
  have h6 : gJ (dN d q) b = gJ d b := by rw [gJ_dN, if_neg hb]
  have h7 : gO (dN d q) b = gO d b := by rw [gO_dN, if_neg hb]
  simp only [wE, h1, h2, h3, h4, h5, h6, h7]
theorem wE_zR {G : mG} {Z : mZ} {d : mD} {f a c b : Nat} (hb : b ≠ a) : wE G (zR Z f a c) d b = wE G Z d b := by
  have h2 : ∀ g, rf (zR Z f a c) g b = rf Z g b := fun g => by rw [rf_zR, if_neg (fun h => hb h.2)]
  have h1 : mK (zR Z f a c) b = mK Z b := rfl
  have h3 : mN (zR Z f a c) b = mN Z b := rfl
  unfold wE
  simp only [h2]
  rw [h1, h3]
theorem mP_new {G : mG} {Z : mZ} {d : mD} {q k n : Nat} {e : va_E} (hq : q ∉ Z.1) (he : wE G (zN Z q k n) (dN d q) q = e) : mP G Z d ++ [(q, e)] = mP G (zN Z q k n) (dN d q) := by
  show va_pl Z.1 (wE G Z d) ++ [(q, e)] = va_pl (Z.1 ++ [q]) (wE G (zN Z q k n) (dN d q))
  unfold va_pl
  rw [List.map_append, List.map_cons, List.map_nil, he]
  congr 1
  refine List.map_congr_left fun a ha => ?_
  rw [wE_zN (fun (h : a = q) => hq (h ▸ ha))]
theorem mP_fresh {A : Nat → Prop} {G : mG} {Z : mZ} {d : mD} {q : Nat} {e : va_E} (hD : va_D A (mP G Z d ++ [(q, e)])) : q ∉ Z.1 := fun h => by
  obtain ⟨k, hk⟩ := mP_at (G := G) (d := d) h rfl
  have hlt : k < (mP G Z d).length := (List.getElem?_eq_some_iff.mp hk).1
  have h1 := hD.1 k (mP G Z d).length (q, wE G Z d q) (q, e) (by rw [List.getElem?_append_left hlt]; exact hk) (by simp) rfl
  omega
section
variable {l : Launch} {G : mG} {R : Room} {X : mF} {own : String} {cc : ByteArray} {nL kc ns : Nat} {Z : mZ} {pc : Nat} {lv : List (Option Value)} {rest : List Value} {d : mD}
theorem g_newO {C : String} {T : u_T} {tyq : Nat → FieldType} {N ci ix : Nat} {fs : List Value} (hin : ∀ w ∈ u_ws C T N, w ∈ AW) (hty : ∀ k, k < N → parseFieldDescriptor (T k).2.2.1 = some (tyq k)) (hc : vwCl[ci]? = some (C, T, N)) (hcl : Cond.classLink own ix C ∈ AW) (hinst : Cond.instantiable C N ∈ AW) (hini : Cond.initialized C ∈ AW) (hfs : ∀ j, j < N → defaultValue (tyq j) = vp_V fs j) (he : ∀ q, wE G (zN Z q ci 0) (dN d q) q = .inr (ci, fs)) (hce : kc + 1 ≤ R.cells) (hsl : ns + N ≤ R.slots) (hd : decode cc pc = .ok (.new ix, 3))
    (kk : ∀ q, q ∉ Z.1 → mGo l G R X own cc nL (kc + 1) (ns + N) (zN Z q ci 0) (pc + 3) lv (.ref q :: rest) (dN d q)) : mGo l G R X own cc nL kc ns Z pc lv rest d := by
  intro C9 H locs ls hW hL
  obtain ⟨hx, hb, hml, hown, hA, hN, hK, hO, hq⟩ := id C9
  refine va_new hx hb hA hin tyq hty hown (hA _ hcl) (hA _ hinst) (hA _ hini) hK hW.1 hW.2.1 hW.2.2 hq hc hfs hce hsl hd (fun q H1 hP1 hD1 hS1 => ?_)
  have hf := mP_fresh hD1
  rw [mP_new hf (he q)] at hP1 hD1
  exact kk q hf C9 H1 locs ls ⟨hP1, hD1, hS1⟩ hL
theorem g_newI {n : Int32} (N : Nat) (hn : n = nI N) (hN : N < 2 ^ 27) (hce : kc + 1 ≤ R.cells) (hsl : ns + N ≤ R.slots) (hd : decode cc pc = .ok (.newarray .int, 2))
    (kk : ∀ q, q ∉ Z.1 → mGo l G R X own cc nL (kc + 1) (ns + N) (zN Z q 10 N) (pc + 2) lv (.ref q :: rest) (dN d q)) : mGo l G R X own cc nL kc ns Z pc lv (.int n :: rest) d := by
  intro C9 H locs ls hW hL
  obtain ⟨hx, hb, hml, hown, hA, hN9, hK, hO, hq⟩ := id C9
  subst hn
  refine va_newa (atype := .int) (N' := N) (a0 := (N, .inl (fun _ => 0))) hx hb (hA _ wa_int) rfl hK hW.1 hW.2.1 hW.2.2 hq (fun cA => rfl) (nI_pos (by omega)) (nI_clamp (by omega)) (by show N * 4 ≤ _; omega) hce hsl hd (fun q cA H1 hK1 hP1 hD1 hS1 => ?_)
  have e1 : X.2.2.1.vm.findClass ("[" ++ FieldType.int.toString) = some G.2.1 := (hK.2 0 (G.2.1, .int) rfl).2
  have e2 : X.2.2.1.vm.findClass ("[" ++ FieldType.int.toString) = some cA := (hK1.2 4 (cA, .int) rfl).2
  have hc : cA = G.2.1 := Option.some.inj (e2.symm.trans e1)
  subst hc
  have hf := mP_fresh hD1
  rw [mP_new (k := 10) (n := N) hf (by simp [wE, mK_zN, mN_zN, gA_dN])] at hP1 hD1
  exact kk q hf C9 H1 locs ls ⟨hP1, hD1, hS1⟩ hL
theorem g_newJ {n : Int32} (N : Nat) (hn : n = nI N) (hN : N < 2 ^ 26) (hce : kc + 1 ≤ R.cells) (hsl : ns + N ≤ R.slots) (hd : decode cc pc = .ok (.newarray .long, 2))
    (kk : ∀ q, q ∉ Z.1 → mGo l G R X own cc nL (kc + 1) (ns + N) (zN Z q 11 N) (pc + 2) lv (.ref q :: rest) (dN d q)) : mGo l G R X own cc nL kc ns Z pc lv (.int n :: rest) d := by
  intro C9 H locs ls hW hL
  obtain ⟨hx, hb, hml, hown, hA, hN9, hK, hO, hq⟩ := id C9
  subst hn
  refine va_newa (atype := .long) (N' := N) (a0 := (N, .inr (.inl (fun _ => 0)))) hx hb (hA _ wa_long) rfl hK hW.1 hW.2.1 hW.2.2 hq (fun cA => rfl) (nI_pos (by omega)) (nI_clamp (by omega)) (by show N * 8 ≤ _; omega) hce hsl hd (fun q cA H1 hK1 hP1 hD1 hS1 => ?_)
  have e1 : X.2.2.1.vm.findClass ("[" ++ FieldType.long.toString) = some G.2.2.1 := (hK.2 1 (G.2.2.1, .long) rfl).2
  have e2 : X.2.2.1.vm.findClass ("[" ++ FieldType.long.toString) = some cA := (hK1.2 4 (cA, .long) rfl).2
  have hc : cA = G.2.2.1 := Option.some.inj (e2.symm.trans e1)
  subst hc
  have hf := mP_fresh hD1
  rw [mP_new (k := 11) (n := N) hf (by simp [wE, mK_zN, mN_zN, gJ_dN])] at hP1 hD1
  exact kk q hf C9 H1 locs ls ⟨hP1, hD1, hS1⟩ hL
theorem g_newS {n : Int32} {ix : Nat} (N : Nat) (hcl : Cond.classLink own ix "MovedBlocks$Scene" ∈ AW) (hn : n = nI N) (hN : N < 2 ^ 27) (hce : kc + 1 ≤ R.cells) (hsl : ns + N ≤ R.slots) (hd : decode cc pc = .ok (.anewarray ix, 3))
    (kk : ∀ q, q ∉ Z.1 → mGo l G R X own cc nL (kc + 1) (ns + N) (zN Z q 12 N) (pc + 3) lv (.ref q :: rest) (dN d q)) : mGo l G R X own cc nL kc ns Z pc lv (.int n :: rest) d := by
  intro C9 H locs ls hW hL
  obtain ⟨hx, hb, hml, hown, hA, hN9, hK, hO, hq⟩ := id C9
  subst hn
  refine va_newq (N' := N) hx hb hown (hA _ hcl) (hN9 _ wo_X3) hK hW.1 hW.2.1 hW.2.2 hq (nI_pos (by omega)) (nI_clamp (by omega)) (by omega) hce hsl hd (fun q cA H1 hK1 hP1 hD1 hS1 => ?_)
  obtain ⟨_, _, _, _, _, e1⟩ := (hK.2 2 (G.2.2.2.1, .object "MovedBlocks$Scene") rfl).2
  obtain ⟨_, _, _, _, _, e2⟩ := (hK1.2 4 (cA, .object "MovedBlocks$Scene") rfl).2
  have hc : cA = G.2.2.2.1 := Option.some.inj (e2.symm.trans e1)
  subst hc
  have hf := mP_fresh hD1
  rw [mP_new (k := 12) (n := N) hf (by simp [wE, mK_zN, mN_zN, gO_dN])] at hP1 hD1
  exact kk q hf C9 H1 locs ls ⟨hP1, hD1, hS1⟩ hL
theorem g_newT {n : Int32} {ix : Nat} (N : Nat) (hcl : Cond.classLink own ix "MovedBlocks$Sheet" ∈ AW) (hn : n = nI N) (hN : N < 2 ^ 27) (hce : kc + 1 ≤ R.cells) (hsl : ns + N ≤ R.slots) (hd : decode cc pc = .ok (.anewarray ix, 3))
    (kk : ∀ q, q ∉ Z.1 → mGo l G R X own cc nL (kc + 1) (ns + N) (zN Z q 13 N) (pc + 3) lv (.ref q :: rest) (dN d q)) : mGo l G R X own cc nL kc ns Z pc lv (.int n :: rest) d := by
  intro C9 H locs ls hW hL
  obtain ⟨hx, hb, hml, hown, hA, hN9, hK, hO, hq⟩ := id C9
  subst hn
  refine va_newq (N' := N) hx hb hown (hA _ hcl) (hN9 _ wo_X5) hK hW.1 hW.2.1 hW.2.2 hq (nI_pos (by omega)) (nI_clamp (by omega)) (by omega) hce hsl hd (fun q cA H1 hK1 hP1 hD1 hS1 => ?_)
  obtain ⟨_, _, _, _, _, e1⟩ := (hK.2 3 (G.2.2.2.2.1, .object "MovedBlocks$Sheet") rfl).2
  obtain ⟨_, _, _, _, _, e2⟩ := (hK1.2 4 (cA, .object "MovedBlocks$Sheet") rfl).2
  have hc : cA = G.2.2.2.2.1 := Option.some.inj (e2.symm.trans e1)
  subst hc
  have hf := mP_fresh hD1
  rw [mP_new (k := 13) (n := N) hf (by simp [wE, mK_zN, mN_zN, gO_dN])] at hP1 hD1
  exact kk q hf C9 H1 locs ls ⟨hP1, hD1, hS1⟩ hL
theorem g_putF {ref C : String} {T : u_T} {tyq : Nat → FieldType} {N ci ix fk a : Nat} {fs : List Value} {v : Value} {ty : FieldType} {Z' : mZ} {d' : mD} (hX : X.2.2.2.2.2.2.1.name = "<init>") (hdecl : (T fk).1 = own) (hin : ∀ w ∈ u_ws C T N, w ∈ AW) (hty : ∀ k, k < N → parseFieldDescriptor (T k).2.2.1 = some (tyq k)) (hnm : ∀ a, a < N → ∀ b, b < N → a ≠ b → (T a).2.1 ≠ (T b).2.1) (hc : vwCl[ci]? = some (C, T, N)) (hk : fk < N) (hlink : Cond.fieldLink own ix ref (T fk).2.1 (T fk).2.2.1 ∈ AW) (href : (T fk).1 = ref) (hfin : (T fk).2.2.2 = true) (hpd : parseFieldDescriptor (T fk).2.2.1 = some ty) (hn : narrow ty v = v) (hfit : fits ty v = true) (hl : fk < fs.length)
    (hm : a ∈ Z.1) (he : wE G Z d a = .inr (ci, fs)) (hZ : Z'.1 = Z.1) (ha : wE G Z' d' a = .inr (ci, fs.set fk v)) (hb' : ∀ b, b ≠ a → wE G Z' d' b = wE G Z d b) (hd : decode cc pc = .ok (.putfield ix, 3))
    (kk : mGo l G R X own cc nL kc ns Z' (pc + 3) lv rest d') : mGo l G R X own cc nL kc ns Z pc lv (v :: .ref a :: rest) d := by
  intro C9 H locs ls hW hL
  obtain ⟨k9, hk9⟩ := mP_at hm he
  obtain ⟨hx, hb, hml, hown, hA, hN, hK, hO, hq⟩ := id C9
  refine va_putF hx hb hA hin tyq hty hnm hown hK hW.1 hW.2.1 hW.2.2 k9 hk9 hc fk hk (hA _ hlink) (by rw [href]; exact fun _ h => h) hfin hX hdecl hpd hn hfit hl hd (fun H1 locs1 hP1 hD1 hS1 => ?_)
  have e9 := mP_set (Z' := Z') (d' := d') hW.2.1 hm hk9 he hZ ha hb'
  rw [e9] at hP1 hD1
  exact kk C9 H1 locs1 ls ⟨hP1, hD1, hS1⟩ hL
theorem g_obj {ix : Nat} {a : Nat} (hlk : Cond.methodLink own ix objectInit ∈ AW) (hfr : 1 ≤ R.frames) (hlo : (rest.map fun v => v.category).sum + 12 ≤ R.locals) (hd : decode cc pc = .ok (.invokespecial ix, 3)) (kk : mGo l G R X own cc nL kc ns Z (pc + 3) lv rest d) : mGo l G R X own cc nL kc ns Z pc lv (.ref a :: rest) d := by
  intro C9 H locs ls hW hL
  obtain ⟨hx, hb, hml, hown, hA, hN, hK, hO, hq⟩ := id C9
  refine W.objInit hx hb hown (hA _ hlk) (hA _ w_oi) (hA _ w_oc) rfl (by rw [hml]; exact hL.1) rfl hd hfr (show 2 * 0 + _ + 12 ≤ _ by rw [Nat.mul_zero, Nat.zero_add]; exact hlo) ?_
  exact kk C9 H locs ls hW hL
end
abbrev mRn (fr lo mc ms : Nat) : Room := { frames := fr, cells := mc, slots := ms, locals := lo }
def mPostN (G : mG) (Z : mZ) (sz : Nat) (u : mZ × mD) (t : State) : Prop := va_P G.1 vwCl (mP G u.1 u.2) t.heap ∧ va_D (mAS Z sz) (mP G u.1 u.2)
/-- a constructor: it makes cells -/
def CtN (l : Launch) (G : mG) (y : MethodName) (cc : ByteArray) (nL fr lo mc ms : Nat) (av : List Value) (Z : mZ) (d : mD) (Pn : mZ → mD → Prop) : Prop :=
  ∀ sz, Met l y (.code y cc nL none :: AW) (mRn fr lo mc ms) (va_Pc av (mPre G Z d sz)) (va_Qv (fun (u : mZ × mD) => Pn u.1 u.2) (mPostN G Z sz) (mAS Z sz)) mc ms (mAS Z sz)
def mRetN (l : Launch) (G : mG) (R : Room) (X : mF) (own : String) (cc : ByteArray) (nL mc ms : Nat) (Pn : mZ → mD → Prop) : Prop := ∀ (pc : Nat) (lv : List (Option Value)) (Z' : mZ) (d' : mD) (k n : Nat), Pn Z' d' → k ≤ mc → n ≤ ms → decode cc pc = .ok (.return_, 1) → mGo l G R X own cc nL k n Z' pc lv [] d'
theorem enterN {l : Launch} {G : mG} {y : MethodName} {cc : ByteArray} {nL fr lo mc ms : Nat} {av : List Value} {Z : mZ} {d : mD} {Pn : mZ → mD → Prop} (own : String) (nr : Nat) (lv : List (Option Value)) (hy : plainName y.cls = true) (ho : y.cls = own) (hyn : y.name = "<init>") (hlv : mIni av ++ List.replicate nr none = lv) (hll : lv.length = nL)
    (body : ∀ X : mF, X.2.2.2.2.2.2.1.name = "<init>" → mRetN l G (mRn fr lo mc ms) X own cc nL mc ms Pn → mGo l G (mRn fr lo mc ms) X own cc nL 0 0 Z 0 lv [] d) : CtN l G y cc nL fr lo mc ms av Z d Pn := by
  intro sz
  refine Met.ofW (cc := cc) (maxL := nL) (ret := none) hy rfl ?_
  intro p e s m args below meth c s₁ B hml hv
  obtain ⟨rfl, hsz, hP, hK, hD, hN, hO⟩ := hv
  have hts := atoms_spec (ws := .code y cc nL none :: AW) B.pre
  have hown : s.vm.findClass own = some m.cls := by rw [← ho]; exact findClass_of_methodNamed B.named
  have hlocks := B.notSynchronized
  have hr := B.returns
  have hin : meth.name = "<init>" := by rw [← hyn]; exact (name_of_methodNamed B.named B.method).1
  subst hsz
  have hlen : (lg_sl av).length ≤ nL := by rw [← mIni_len, ← hll, ← hlv, List.length_append]; omega
  have hl := lv_entry av (n := nL) hlen
  rw [lg_entry_eq]
  have C9 : mCx G (p, e, s, m, av.toArray, below, meth, c, mAS Z s.heap.size, MQ below (va_Qv (fun (u : mZ × mD) => Pn u.1 u.2) (mPostN G Z s.heap.size) (mAS Z s.heap.size)) av.toArray s mc ms (mAS Z s.heap.size)) own cc nL := ⟨B.exec, B.bytes, hml, hown, fun w hw => hts w (List.mem_cons_of_mem _ hw), hN, hK, hO, fun q hq => Or.inr hq⟩
  refine body (p, e, s, m, av.toArray, below, meth, c, mAS Z s.heap.size, MQ below (va_Qv (fun (u : mZ × mD) => Pn u.1 u.2) (mPostN G Z s.heap.size) (mAS Z s.heap.size)) av.toArray s mc ms (mAS Z s.heap.size)) hin ?_ C9 s.heap [] _ ⟨hP, ⟨hD.1, fun k q hk => Or.inl (mP_mem hk)⟩, va_S.rf⟩ (mLv_ini hlv hll hl)
  intro pc lv2 Z' d' k n hp hk hn hd C H locs ls hW hL
  refine W.widen (k := mc) (n := ms) hk hn ?_
  exact W.vret C.1 C.2.1 hr (fun t ht _ => ⟨⟨(Z', d'), rfl, hp, by rw [ht]; exact hW.1, hW.2.1⟩, hW.2.2.F ht⟩) hW.2.2.2.2 hd hlocks
def mYi (y : MethodName) (cc : ByteArray) (nL : Nat) : Prop := y.name = "<init>" ∧ Cond.instanceMethod y ∈ AW ∧ Cond.initialized y.cls ∈ AW ∧ Cond.code y cc nL none ∈ AW ∧ (y.cls ≠ "java/lang/invoke/MethodHandle" ∧ y.cls ≠ "java/lang/invoke/VarHandle" ∧ (parseMethodDescriptor y.desc).map (fun d => d.parameters.length) = some 0)
theorem callN {l : Launch} {G : mG} {R : Room} {X : mF} {own : String} {cc : ByteArray} {nL kc ns : Nat} {Z : mZ} {pc : Nat} {lv : List (Option Value)} {rest : List Value} {d : mD} {y : MethodName} {cY : ByteArray} {nY fr lo mc ms ix b : Nat} {Pn : mZ → mD → Prop} (hc : CtN l G y cY nY fr lo mc ms [.ref b] Z d Pn) (hlk : Cond.methodLinkNest own ix y "MovedBlocks" ∈ NW) (hY : mYi y cY nY) (hro : fr + 1 ≤ R.frames ∧ 8 + (nY + 11) + lo ≤ R.locals) (hce : kc + mc ≤ R.cells ∧ ns + ms ≤ R.slots) (hst : (rest.map fun v => v.category).sum ≤ 8) (hd : decode cc pc = .ok (.invokespecial ix, 3))
    (kk : ∀ Z' d', Pn Z' d' → mGo l G R X own cc nL (kc + mc) (ns + ms) Z' (pc + 3) lv rest d') : mGo l G R X own cc nL kc ns Z pc lv (.ref b :: rest) d := by
  intro C9 H locs ls hW hL
  refine va_callv (va_runIN (As := []) (rest := rest) ⟨C9.1, C9.2.1, C9.2.2.1, C9.2.2.2.1, C9.2.2.2.2.1⟩ (hc H.size) ⟨va_cnB 0 C9.2.2.2.2.1 (mGood hY.2.2.2.1) rfl rfl rfl (C9.2.2.2.2.2.1 _ hlk) (C9.2.2.2.2.1 _ hY.2.2.1) hY.2.2.2.2 hro, hY.1, C9.2.2.2.2.1 _ hY.2.1⟩ ⟨mFB, fun U hU hw => ⟨rfl, mPre_of C9 hW U hU hw⟩⟩ rfl rfl hL.1 rfl (lv_room hst) hd hce) hW.2.2 (fun q _ h => mA_of C9 hW q h) (mA_of C9 hW) (fun u9 t9 H1 locs1 ht9 hv9 hp9 hB9 hz9 hk9 hS9 => ?_)
  exact kk u9.1 u9.2 hp9 C9 H1 locs1 ls ⟨by rw [← ht9]; exact hB9.1, hB9.2.weaken (fun k x _ hx => mA_of C9 hW x.1 hx), hS9⟩ hL
/-! ===== what is owned by whom ===== -/
/-- each cell that a field names is named by that field alone -/
def oI (Z : mZ) : Prop := (∀ f b c, rf Z f b = some c → b ∈ Z.1 ∧ c ∈ Z.1) ∧ ∀ f b g a c, rf Z f b = some c → rf Z g a = some c → f = g ∧ b = a
/-- no field names it -/
def nO (Z : mZ) (a : Nat) : Prop := ∀ f b, rf Z f b ≠ some a
/-- none of its fields names anything -/
def bar (Z : mZ) (a : Nat) : Prop := ∀ f, rf Z f a = none
/-- what was stays, but for the fields of a; what is named anew is new -/
def gW (Z : mZ) (d : mD) (a : Nat) (Z' : mZ) (d' : mD) : Prop := (∀ b, b ∈ Z.1 → b ∈ Z'.1 ∧ mK Z' b = mK Z b ∧ mN Z' b = mN Z b ∧ (b ≠ a → (∀ f, rf Z' f b = rf Z f b) ∧ ∀ f, gI d' f b = gI d f b) ∧ gA d' b = gA d b ∧ gJ d' b = gJ d b ∧ gO d' b = gO d b) ∧ ∀ f b c, rf Z' f b = some c → rf Z f b = some c ∨ c ∉ Z.1
theorem gW_self (Z : mZ) (d : mD) (a : Nat) : gW Z d a Z d := ⟨fun b hb => ⟨hb, rfl, rfl, fun _ => ⟨fun _ => rfl, fun _ => rfl⟩, rfl, rfl, rfl⟩, fun f b c h => Or.inl h⟩
theorem mem_zN {Z : mZ} {q k n b : Nat} : b ∈ (zN Z q k n).1 ↔ b ∈ Z.1 ∨ b = q := by
  show b ∈ Z.1 ++ [q] ↔ _
  rw [List.mem_append, List.mem_singleton]
theorem gW_new {Z0 Z : mZ} {d0 d : mD} {a q : Nat} (k n : Nat) (h : gW Z0 d0 a Z d) (hq : q ∉ Z.1) : gW Z0 d0 a (zN Z q k n) (dN d q) := by
  refine ⟨fun b hb => ?_, fun f b c hc => ?_⟩
  · obtain ⟨h1, h2, h3, h4, h5, h6, h7⟩ := h.1 b hb
    have hn : b ≠ q := fun e => hq (e ▸ h1)
    refine ⟨mem_zN.mpr (Or.inl h1), by rw [mK_zN, if_neg hn, h2], by rw [mN_zN, if_neg hn, h3], fun ha => ⟨fun f => by rw [rf_zN, if_neg hn]; exact (h4 ha).1 f, fun f => by rw [gI_dN, if_neg hn]; exact (h4 ha).2 f⟩, by rw [gA_dN, if_neg hn, h5], by rw [gJ_dN, if_neg hn, h6], by rw [gO_dN, if_neg hn, h7]⟩
  · rw [rf_zN] at hc
    split at hc
    · cases hc
    · exact h.2 f b c hc
theorem gW_ref {Z0 Z : mZ} {d0 d : mD} {a f c : Nat} (h : gW Z0 d0 a Z d) (hc : c ∉ Z0.1) : gW Z0 d0 a (zR Z f a c) d := by
  refine ⟨fun b hb => ?_, fun g b x hx => ?_⟩
  · obtain ⟨h1, h2, h3, h4, h5⟩ := h.1 b hb
    exact ⟨h1, h2, h3, fun ha => ⟨fun g => by rw [rf_zR, if_neg (fun e => ha e.2)]; exact (h4 ha).1 g, (h4 ha).2⟩, h5⟩
  · rw [rf_zR] at hx
    split at hx
    · cases hx; exact Or.inr hc
    · exact h.2 g b x hx
theorem gW_int {Z0 Z : mZ} {d0 d : mD} {a f : Nat} {v : Int32} (h : gW Z0 d0 a Z d) : gW Z0 d0 a Z (sI d f a v) := by
  refine ⟨fun b hb => ?_, h.2⟩
  obtain ⟨h1, h2, h3, h4, h5⟩ := h.1 b hb
  exact ⟨h1, h2, h3, fun ha => ⟨(h4 ha).1, fun g => by rw [gI_sI, if_neg (fun e => ha e.2)]; exact (h4 ha).2 g⟩, h5⟩
theorem gW_arr {Z0 Z : mZ} {d0 d : mD} {a c : Nat} {g : Nat → Int32} (h : gW Z0 d0 a Z d) (hc : c ∉ Z0.1) : gW Z0 d0 a Z (tA d c g) := by
  refine ⟨fun b hb => ?_, h.2⟩
  obtain ⟨h1, h2, h3, h4, h5, h6⟩ := h.1 b hb
  exact ⟨h1, h2, h3, h4, by rw [gA_tA, if_neg (fun (e : b = c) => hc (e ▸ hb))]; exact h5, h6⟩
theorem gW_arO {Z0 Z : mZ} {d0 d : mD} {a c : Nat} {g : Nat → Option Nat} (h : gW Z0 d0 a Z d) (hc : c ∉ Z0.1) : gW Z0 d0 a Z (tO d c g) := by
  refine ⟨fun b hb => ?_, h.2⟩
  obtain ⟨h1, h2, h3, h4, h5, h6, h7⟩ := h.1 b hb
  exact ⟨h1, h2, h3, h4, h5, h6, by rw [gO_tO, if_neg (fun (e : b = c) => hc (e ▸ hb))]; exact h7⟩
theorem gW_call {Z0 Z Z' : mZ} {d0 d d' : mD} {a q : Nat} (h : gW Z0 d0 a Z d) (hq : q ∉ Z0.1) (h' : gW Z d q Z' d') : gW Z0 d0 a Z' d' := by
  refine ⟨fun b hb => ?_, fun f b c hc => ?_⟩
  · obtain ⟨h1, h2, h3, h4, h5, h6, h7⟩ := h.1 b hb
    obtain ⟨k1, k2, k3, k4, k5, k6, k7⟩ := h'.1 b h1
    have hn : b ≠ q := fun e => hq (e ▸ hb)
    exact ⟨k1, k2.trans h2, k3.trans h3, fun ha => ⟨fun f => ((k4 hn).1 f).trans ((h4 ha).1 f), fun f => ((k4 hn).2 f).trans ((h4 ha).2 f)⟩, k5.trans h5, k6.trans h6, k7.trans h7⟩
  · rcases h'.2 f b c hc with h1 | h1
    · exact h.2 f b c h1
    · exact Or.inr (fun h2 => h1 (h.1 c h2).1)
theorem oI_new {Z : mZ} {q : Nat} (k n : Nat) (h : oI Z) : oI (zN Z q k n) := by
  refine ⟨fun f b c hc => ?_, fun f b g a c h1 h2 => ?_⟩
  · rw [rf_zN] at hc
    split at hc
    · cases hc
    · obtain ⟨h1, h2⟩ := h.1 f b c hc
      exact ⟨mem_zN.mpr (Or.inl h1), mem_zN.mpr (Or.inl h2)⟩
  · rw [rf_zN] at h1 h2
    split at h1
    · cases h1
    · split at h2
      · cases h2
      · exact h.2 f b g a c h1 h2
theorem nO_new {Z : mZ} {q x : Nat} (k n : Nat) (h : nO Z x) : nO (zN Z q k n) x := fun f b hc => by
  rw [rf_zN] at hc
  split at hc
  · cases hc
  · exact h f b hc
theorem nO_fresh {Z : mZ} {q : Nat} (h : oI Z) (hq : q ∉ Z.1) : nO Z q := fun f b hc => hq (h.1 f b q hc).2
theorem bar_new {Z : mZ} {q : Nat} (k n : Nat) : bar (zN Z q k n) q := fun f => by rw [rf_zN, if_pos rfl]
theorem oI_ref {Z : mZ} {f a c : Nat} (h : oI Z) (ha : a ∈ Z.1) (hc : c ∈ Z.1) (hn : nO Z c) : oI (zR Z f a c) := by
  refine ⟨fun g b x hx => ?_, fun g b g' b' x h1 h2 => ?_⟩
  · rw [rf_zR] at hx
    split at hx
    · next e => cases hx; exact ⟨e.2 ▸ ha, hc⟩
    · exact h.1 g b x hx
  · rw [rf_zR] at h1 h2
    split at h1
    · next e1 =>
      cases h1
      split at h2
      · next e2 => exact ⟨e1.1.trans e2.1.symm, e1.2.trans e2.2.symm⟩
      · exact absurd h2 (hn g' b')
    · split at h2
      · cases h2; exact absurd h1 (hn g b)
      · exact h.2 g b g' b' x h1 h2
theorem nO_ref {Z : mZ} {f a c x : Nat} (h : nO Z x) (hx : x ≠ c) : nO (zR Z f a c) x := fun g b hc => by
  rw [rf_zR] at hc
  split at hc
  · cases hc; exact hx rfl
  · exact h g b hc
theorem nO_call {Z Z' : mZ} {d d' : mD} {q x : Nat} (h : nO Z x) (hx : x ∈ Z.1) (h' : gW Z d q Z' d') : nO Z' x := fun f b hc => by
  rcases h'.2 f b x hc with h1 | h1
  · exact h f b h1
  · exact h1 hx
theorem gW_ob {Z Z' : mZ} {d d' : mD} {q ci b : Nat} (h' : gW Z d q Z' d') (h : ob Z ci b) : ob Z' ci b := ⟨(h'.1 b h.1).1, (h'.1 b h.1).2.1.trans h.2⟩
theorem gW_ar {Z Z' : mZ} {d d' : mD} {q k b n : Nat} (h' : gW Z d q Z' d') (h : ar Z k b n) : ar Z' k b n := ⟨(h'.1 b h.1).1, (h'.1 b h.1).2.1.trans h.2.1, (h'.1 b h.1).2.2.1.trans h.2.2⟩
theorem gW_rfo {Z Z' : mZ} {d d' : mD} {q f b c : Nat} (h' : gW Z d q Z' d') (hi : oI Z) (hq : bar Z q) (h : rf Z f b = some c) : rf Z' f b = some c := by
  have hb : b ∈ Z.1 := (hi.1 f b c h).1
  have hn : b ≠ q := fun e => by rw [e, hq f] at h; cases h
  rw [((h'.1 b hb).2.2.2.1 hn).1 f, h]
theorem ob_new {Z : mZ} {ci b q k n : Nat} (h : ob Z ci b) (hq : q ∉ Z.1) : ob (zN Z q k n) ci b := ⟨mem_zN.mpr (Or.inl h.1), by rw [mK_zN, if_neg (fun (e : b = q) => hq (e ▸ h.1))]; exact h.2⟩
theorem ar_new {Z : mZ} {kd b m q k n : Nat} (h : ar Z kd b m) (hq : q ∉ Z.1) : ar (zN Z q k n) kd b m := ⟨mem_zN.mpr (Or.inl h.1), by rw [mK_zN, if_neg (fun (e : b = q) => hq (e ▸ h.1))]; exact h.2.1, by rw [mN_zN, if_neg (fun (e : b = q) => hq (e ▸ h.1))]; exact h.2.2⟩
theorem ob_born (Z : mZ) (q k n : Nat) : ob (zN Z q k n) k q := ⟨mem_zN.mpr (Or.inr rfl), by rw [mK_zN, if_pos rfl]⟩
theorem ar_born (Z : mZ) (q k n : Nat) : ar (zN Z q k n) k q n := ⟨mem_zN.mpr (Or.inr rfl), by rw [mK_zN, if_pos rfl], by rw [mN_zN, if_pos rfl]⟩
