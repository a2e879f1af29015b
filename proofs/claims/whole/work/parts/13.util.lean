def mB (p : Prop) [Decidable p] : Int32 := if p then 1 else 0
theorem narB (p : Prop) [Decidable p] : narrow .boolean (.int (mB p)) = .int (mB p) := by unfold mB; split <;> decide
theorem mB_1 {p : Prop} [Decidable p] (h : p) : mB p = 1 := if_pos h
theorem mB_0 {p : Prop} [Decidable p] (h : ¬ p) : mB p = 0 := if_neg h
theorem mB_eq0 {p : Prop} [Decidable p] : mB p = 0 ↔ ¬ p := by unfold mB; split <;> simp_all
theorem mB_ne0 {p : Prop} [Decidable p] : ¬ mB p = 0 ↔ p := by unfold mB; split <;> simp_all
/-- fewer known locals -/
def mLe : List (Option Value) → List (Option Value) → Prop
  | [], [] => True
  | none :: a, _ :: b => mLe a b
  | some v :: a, o :: b => o = some v ∧ mLe a b
  | _, _ => False
theorem mLe_get : ∀ (a b : List (Option Value)), mLe a b → a.length = b.length ∧ ∀ (k : Nat) (v : Value), a[k]? = some (some v) → b[k]? = some (some v)
  | [], [], _ => ⟨rfl, fun k v h => by simp at h⟩
  | [], _ :: _, h => by simp [mLe] at h
  | none :: a, o :: b, h => by
    have ih := mLe_get a b h
    refine ⟨by simp [ih.1], fun k v hk => ?_⟩
    cases k with
    | zero => simp at hk
    | succ k => simpa using ih.2 k v (by simpa using hk)
  | some w :: a, o :: b, h => by
    have ih := mLe_get a b h.2
    refine ⟨by simp [ih.1], fun k v hk => ?_⟩
    cases k with
    | zero => rw [h.1]; simpa using hk
    | succ k => simpa using ih.2 k v (by simpa using hk)
  | none :: _, [], h => by simp [mLe] at h
  | some _ :: _, [], h => by simp [mLe] at h
theorem mWk {l : Launch} {G : mG} {R : Room} {X : mF} {own : String} {cc : ByteArray} {nL kc ns : Nat} {Z : mZ} {pc : Nat} {lv lv' : List (Option Value)} {st : List Value} {d : mD} (h : mLe lv' lv) (kk : mGo l G R X own cc nL kc ns Z pc lv' st d) : mGo l G R X own cc nL kc ns Z pc lv st d := fun C H locs ls hW hL => by
  obtain ⟨h1, h2⟩ := mLe_get lv' lv h
  exact kk C H locs ls hW ⟨hL.1, hL.2.1, by rw [h1]; exact hL.2.2.1, fun k v hk => hL.2.2.2 k v (h2 k v hk)⟩
theorem mLe_rf : ∀ (a : List (Option Value)), mLe a a
  | [] => trivial
  | none :: a => mLe_rf a
  | some v :: a => ⟨rfl, mLe_rf a⟩
theorem mLe_set : ∀ (i : Nat) (a : List (Option Value)), mLe (a.set i none) a
  | _, [] => trivial
  | 0, o :: a => mLe_rf a
  | i + 1, none :: a => mLe_set i a
  | i + 1, some v :: a => ⟨rfl, mLe_set i a⟩
section
variable {l : Launch} {G : mG} {R : Room} {X : mF} {own : String} {cc : ByteArray} {nL kc ns : Nat} {Z : mZ} {pc : Nat} {rest : List Value} {d : mD}
theorem dr0 {o0 : Option Value} {rq : List (Option Value)} (kk : mGo l G R X own cc nL kc ns Z pc (none :: rq) rest d) : mGo l G R X own cc nL kc ns Z pc (o0 :: rq) rest d := mWk (mLe_set 0 (o0 :: rq)) kk
theorem dr1 {o0 o1 : Option Value} {rq : List (Option Value)} (kk : mGo l G R X own cc nL kc ns Z pc (o0 :: none :: rq) rest d) : mGo l G R X own cc nL kc ns Z pc (o0 :: o1 :: rq) rest d := mWk (mLe_set 1 (o0 :: o1 :: rq)) kk
theorem dr2 {o0 o1 o2 : Option Value} {rq : List (Option Value)} (kk : mGo l G R X own cc nL kc ns Z pc (o0 :: o1 :: none :: rq) rest d) : mGo l G R X own cc nL kc ns Z pc (o0 :: o1 :: o2 :: rq) rest d := mWk (mLe_set 2 (o0 :: o1 :: o2 :: rq)) kk
theorem dr3 {o0 o1 o2 o3 : Option Value} {rq : List (Option Value)} (kk : mGo l G R X own cc nL kc ns Z pc (o0 :: o1 :: o2 :: none :: rq) rest d) : mGo l G R X own cc nL kc ns Z pc (o0 :: o1 :: o2 :: o3 :: rq) rest d := mWk (mLe_set 3 (o0 :: o1 :: o2 :: o3 :: rq)) kk
theorem dr4 {o0 o1 o2 o3 o4 : Option Value} {rq : List (Option Value)} (kk : mGo l G R X own cc nL kc ns Z pc (o0 :: o1 :: o2 :: o3 :: none :: rq) rest d) : mGo l G R X own cc nL kc ns Z pc (o0 :: o1 :: o2 :: o3 :: o4 :: rq) rest d := mWk (mLe_set 4 (o0 :: o1 :: o2 :: o3 :: o4 :: rq)) kk
theorem dr5 {o0 o1 o2 o3 o4 o5 : Option Value} {rq : List (Option Value)} (kk : mGo l G R X own cc nL kc ns Z pc (o0 :: o1 :: o2 :: o3 :: o4 :: none :: rq) rest d) : mGo l G R X own cc nL kc ns Z pc (o0 :: o1 :: o2 :: o3 :: o4 :: o5 :: rq) rest d := mWk (mLe_set 5 (o0 :: o1 :: o2 :: o3 :: o4 :: o5 :: rq)) kk
theorem dr6 {o0 o1 o2 o3 o4 o5 o6 : Option Value} {rq : List (Option Value)} (kk : mGo l G R X own cc nL kc ns Z pc (o0 :: o1 :: o2 :: o3 :: o4 :: o5 :: none :: rq) rest d) : mGo l G R X own cc nL kc ns Z pc (o0 :: o1 :: o2 :: o3 :: o4 :: o5 :: o6 :: rq) rest d := mWk (mLe_set 6 (o0 :: o1 :: o2 :: o3 :: o4 :: o5 :: o6 :: rq)) kk
theorem dr7 {o0 o1 o2 o3 o4 o5 o6 o7 : Option Value} {rq : List (Option Value)} (kk : mGo l G R X own cc nL kc ns Z pc (o0 :: o1 :: o2 :: o3 :: o4 :: o5 :: o6 :: none :: rq) rest d) : mGo l G R X own cc nL kc ns Z pc (o0 :: o1 :: o2 :: o3 :: o4 :: o5 :: o6 :: o7 :: rq) rest d := mWk (mLe_set 7 (o0 :: o1 :: o2 :: o3 :: o4 :: o5 :: o6 :: o7 :: rq)) kk
theorem dr8 {o0 o1 o2 o3 o4 o5 o6 o7 o8 : Option Value} {rq : List (Option Value)} (kk : mGo l G R X own cc nL kc ns Z pc (o0 :: o1 :: o2 :: o3 :: o4 :: o5 :: o6 :: o7 :: none :: rq) rest d) : mGo l G R X own cc nL kc ns Z pc (o0 :: o1 :: o2 :: o3 :: o4 :: o5 :: o6 :: o7 :: o8 :: rq) rest d := mWk (mLe_set 8 (o0 :: o1 :: o2 :: o3 :: o4 :: o5 :: o6 :: o7 :: o8 :: rq)) kk
theorem dr9 {o0 o1 o2 o3 o4 o5 o6 o7 o8 o9 : Option Value} {rq : List (Option Value)} (kk : mGo l G R X own cc nL kc ns Z pc (o0 :: o1 :: o2 :: o3 :: o4 :: o5 :: o6 :: o7 :: o8 :: none :: rq) rest d) : mGo l G R X own cc nL kc ns Z pc (o0 :: o1 :: o2 :: o3 :: o4 :: o5 :: o6 :: o7 :: o8 :: o9 :: rq) rest d := mWk (mLe_set 9 (o0 :: o1 :: o2 :: o3 :: o4 :: o5 :: o6 :: o7 :: o8 :: o9 :: rq)) kk
theorem dr10 {o0 o1 o2 o3 o4 o5 o6 o7 o8 o9 o10 : Option Value} {rq : List (Option Value)} (kk : mGo l G R X own cc nL kc ns Z pc (o0 :: o1 :: o2 :: o3 :: o4 :: o5 :: o6 :: o7 :: o8 :: o9 :: none :: rq) rest d) : mGo l G R X own cc nL kc ns Z pc (o0 :: o1 :: o2 :: o3 :: o4 :: o5 :: o6 :: o7 :: o8 :: o9 :: o10 :: rq) rest d := mWk (mLe_set 10 (o0 :: o1 :: o2 :: o3 :: o4 :: o5 :: o6 :: o7 :: o8 :: o9 :: o10 :: rq)) kk
theorem dr11 {o0 o1 o2 o3 o4 o5 o6 o7 o8 o9 o10 o11 : Option Value} {rq : List (Option Value)} (kk : mGo l G R X own cc nL kc ns Z pc (o0 :: o1 :: o2 :: o3 :: o4 :: o5 :: o6 :: o7 :: o8 :: o9 :: o10 :: none :: rq) rest d) : mGo l G R X own cc nL kc ns Z pc (o0 :: o1 :: o2 :: o3 :: o4 :: o5 :: o6 :: o7 :: o8 :: o9 :: o10 :: o11 :: rq) rest d := mWk (mLe_set 11 (o0 :: o1 :: o2 :: o3 :: o4 :: o5 :: o6 :: o7 :: o8 :: o9 :: o10 :: o11 :: rq)) kk
theorem dr12 {o0 o1 o2 o3 o4 o5 o6 o7 o8 o9 o10 o11 o12 : Option Value} {rq : List (Option Value)} (kk : mGo l G R X own cc nL kc ns Z pc (o0 :: o1 :: o2 :: o3 :: o4 :: o5 :: o6 :: o7 :: o8 :: o9 :: o10 :: o11 :: none :: rq) rest d) : mGo l G R X own cc nL kc ns Z pc (o0 :: o1 :: o2 :: o3 :: o4 :: o5 :: o6 :: o7 :: o8 :: o9 :: o10 :: o11 :: o12 :: rq) rest d := mWk (mLe_set 12 (o0 :: o1 :: o2 :: o3 :: o4 :: o5 :: o6 :: o7 :: o8 :: o9 :: o10 :: o11 :: o12 :: rq)) kk
theorem dr13 {o0 o1 o2 o3 o4 o5 o6 o7 o8 o9 o10 o11 o12 o13 : Option Value} {rq : List (Option Value)} (kk : mGo l G R X own cc nL kc ns Z pc (o0 :: o1 :: o2 :: o3 :: o4 :: o5 :: o6 :: o7 :: o8 :: o9 :: o10 :: o11 :: o12 :: none :: rq) rest d) : mGo l G R X own cc nL kc ns Z pc (o0 :: o1 :: o2 :: o3 :: o4 :: o5 :: o6 :: o7 :: o8 :: o9 :: o10 :: o11 :: o12 :: o13 :: rq) rest d := mWk (mLe_set 13 (o0 :: o1 :: o2 :: o3 :: o4 :: o5 :: o6 :: o7 :: o8 :: o9 :: o10 :: o11 :: o12 :: o13 :: rq)) kk
end
theorem kl0 : Int64.ofNat ((0 : Fin 2) : Nat) = 0 := by decide
theorem kl1 : Int64.ofNat ((1 : Fin 2) : Nat) = 1 := by decide
theorem ks192 : (Int16.ofInt 192).toInt32 = 192 := by decide +kernel
theorem ks193 : (Int16.ofInt 193).toInt32 = 193 := by decide +kernel
theorem ks194 : (Int16.ofInt 194).toInt32 = 194 := by decide +kernel
theorem ks1552 : (Int16.ofInt 1552).toInt32 = 1552 := by decide +kernel
/-! ===== numbers ===== -/
theorem ma_lt (a b : Int32) : a < b ↔ a.toInt < b.toInt := Int32.lt_iff_toInt_lt
theorem ma_le (a b : Int32) : a ≤ b ↔ a.toInt ≤ b.toInt := Int32.le_iff_toInt_le
theorem ma_eq (a b : Int32) : a = b ↔ a.toInt = b.toInt := ⟨fun h => by rw [h], fun h => Int32.toInt_inj.mp h⟩
theorem ma_rng (x : Int32) : -2147483648 ≤ x.toInt ∧ x.toInt < 2147483648 := ⟨by simpa using Int32.le_toInt x, by simpa using Int32.toInt_lt x⟩
theorem nI_lit (n : Nat) : (OfNat.ofNat n : Int32) = nI n := rfl
/-- a number held between 0 and m -/
def clN (v : Int32) (m : Nat) : Nat := if v < 0 then 0 else if nI m < v then m else v.toNatClampNeg
theorem clN_le (v : Int32) {m : Nat} (hm : m < 2 ^ 31) : clN v m ≤ m := by
  unfold clN
  split
  · omega
  · split
    · omega
    · next h1 h2 =>
      rw [ma_lt, nI_toInt hm] at h2
      unfold Int32.toNatClampNeg
      omega
theorem nI_clN (v : Int32) {m : Nat} (hm : m < 2 ^ 31) : nI (clN v m) = if v < 0 then 0 else if nI m < v then nI m else v := by
  unfold clN
  split
  · rfl
  · split
    · rfl
    · next h1 h2 =>
      obtain ⟨j, hj, rfl⟩ := nI_of h1
      rw [nI_clamp hj]
theorem clN_mm (v : Int32) {m : Nat} (hm : m < 2 ^ 31) : mMax 0 (mMin (nI m) v) = nI (clN v m) := by
  rw [nI_clN v hm]
  have h0 : (0 : Int32).toInt = 0 := by decide
  unfold mMax mMin
  by_cases h1 : v < 0
  · rw [if_pos h1]
    have h2 : v < nI m := by rw [ma_lt, nI_toInt hm]; rw [ma_lt, h0] at h1; omega
    rw [if_pos h2, if_neg]
    rw [ma_lt, h0]; rw [ma_lt, h0] at h1; omega
  · rw [if_neg h1]
    by_cases h2 : nI m < v
    · have h9 : ¬ v < nI m := by rw [ma_lt]; rw [ma_lt] at h2; omega
      rw [if_pos h2]
      simp only [if_neg h9]
      split
      · rfl
      · next h3 => rw [ma_eq, h0, nI_toInt hm]; rw [ma_lt, h0, nI_toInt hm] at h3; omega
    · rw [if_neg h2]
      have key : ∀ w : Int32, ¬ w < 0 → (if 0 < w then w else 0) = w := fun w hw => by
        split
        · rfl
        · next h3 => rw [ma_eq, h0]; rw [ma_lt, h0] at h3 hw; omega
      by_cases h4 : v < nI m
      · rw [if_pos h4]; exact key v h1
      · rw [if_neg h4]
        have h5 : nI m = v := by rw [ma_eq]; rw [ma_lt] at h2 h4; omega
        rw [h5]; exact key v h1
/-- a dot of a picture, beyond the edge the nearest one -/
def pix (f : Nat → Int32) (c r : Int32) : Int32 := f (12 * clN r 7 + clN c 11)
/-! ===== words of the system ===== -/
def xOfI (m : Int32) : Int32 := mRem m 7 - 3
def yOfI (m : Int32) : Int32 := m / 7 - 3
def farI (m : Int32) : Int32 := mAbs (xOfI m) + mAbs (yOfI m)
def colI (b : Int32) : Int32 := mRem b 3 * 4
def rowI (b : Int32) : Int32 := b / 3 * 4
def blkI (c r : Int32) : Int32 := r / 4 * 3 + c / 4
def movI (x y : Int32) : Int32 := 7 * (y + 3) + x + 3
def powI (b : Int32) : Nat → Int32 → Int32
  | 0, p => p
  | n + 1, p => powI b n (p * b)
def gcdI : Nat → Int32 → Int32 → Int32
  | 0, a, _ => a
  | n + 1, a, b => if b = 0 then a else gcdI n b (mRem a b)
abbrev wthn (v lo hi : Int32) : Prop := lo ≤ v ∧ v ≤ hi
theorem ks12345 : (Int16.ofInt 12345).toInt32 = 12345 := by decide +kernel
section
variable {l : Launch} {G : mG} {R : Room} {X : mF} {own : String} {cc : ByteArray} {nL kc ns : Nat} {Z : mZ} {pc : Nat} {lv : List (Option Value)} {rest : List Value} {d : mD}
theorem g_cpI {ix sa da n0 n1 : Nat} {sp dp nn : Int32} (jp jd jn : Nat) (hlk : Cond.methodLink own ix arraycopyName ∈ AW) (h0 : ar Z 10 sa n0) (h1 : ar Z 10 da n1) (e1 : sp = nI jp) (e2 : dp = nI jd) (e3 : nn = nI jn) (b0 : n0 < 2 ^ 31) (b1 : n1 < 2 ^ 31) (l0 : jp + jn ≤ n0) (l1 : jd + jn ≤ n1) (hfr : 1 ≤ R.frames) (hlo : (rest.map fun v => v.category).sum + (nativeFrameWords "java/lang/System" "arraycopy" 5 + 11) ≤ R.locals) (hd : decode cc pc = .ok (.invokestatic ix, 3))
    (kk : mGo l G R X own cc nL kc ns Z (pc + 3) lv rest (tA d da (va_cpy (gA d sa) (gA d da) jp jd jn))) : mGo l G R X own cc nL kc ns Z pc lv (.int nn :: .int dp :: .ref da :: .int sp :: .ref sa :: rest) d := by
  intro C9 H locs ls hW hL
  obtain ⟨k8, hk8⟩ := mP_at (d := d) h0.1 (wE_ar (G := G) h0)
  obtain ⟨k9, hk9⟩ := mP_at (d := d) h1.1 (wE_ar (G := G) h1)
  obtain ⟨hx, hb, hml, hown, hA, hN, hK, hO, hq⟩ := id C9
  subst e1; subst e2; subst e3
  have z1 : (nI jp).toNatClampNeg = jp := nI_clamp (by omega)
  have z2 : (nI jd).toNatClampNeg = jd := nI_clamp (by omega)
  have z3 : (nI jn).toNatClampNeg = jn := nI_clamp (by omega)
  refine va_copyi hx hb (hml.trans hL.1.symm) hown (hA _ hlk) (hA _ w_ncp) (hA _ w_scp) (hA _ w_iSys) hK hW.1 hW.2.1 hW.2.2 k8 k9 0 0 hk8 hk9 rfl rfl rfl (nI_pos (by omega)) (nI_pos (by omega)) (nI_pos (by omega)) (by rw [z1, z3]; exact l0) (by rw [z2, z3]; exact l1) (fun _ _ => rfl) hfr hlo hd (fun H1 locs1 hP1 hD1 hS1 => ?_)
  rw [z1, z2, z3] at hP1 hD1
  have e9 := mP_set (Z' := Z) (d' := tA d da (va_cpy (gA d sa) (gA d da) jp jd jn)) hW.2.1 h1.1 hk9 (wE_ar h1) rfl (wE_ar h1) (fun b hb => wE_tA hb)
  rw [gA_tA, if_pos rfl] at e9
  rw [e9] at hP1 hD1
  exact kk C9 H1 locs1 ls ⟨hP1, hD1, hS1⟩ hL
theorem g_cpJ {ix sa da n0 n1 : Nat} {sp dp nn : Int32} (jp jd jn : Nat) (hlk : Cond.methodLink own ix arraycopyName ∈ AW) (h0 : ar Z 11 sa n0) (h1 : ar Z 11 da n1) (e1 : sp = nI jp) (e2 : dp = nI jd) (e3 : nn = nI jn) (b0 : n0 < 2 ^ 31) (b1 : n1 < 2 ^ 31) (l0 : jp + jn ≤ n0) (l1 : jd + jn ≤ n1) (hfr : 1 ≤ R.frames) (hlo : (rest.map fun v => v.category).sum + (nativeFrameWords "java/lang/System" "arraycopy" 5 + 11) ≤ R.locals) (hd : decode cc pc = .ok (.invokestatic ix, 3))
    (kk : mGo l G R X own cc nL kc ns Z (pc + 3) lv rest (tJ d da (va_cpy (gJ d sa) (gJ d da) jp jd jn))) : mGo l G R X own cc nL kc ns Z pc lv (.int nn :: .int dp :: .ref da :: .int sp :: .ref sa :: rest) d := by
  intro C9 H locs ls hW hL
  obtain ⟨k8, hk8⟩ := mP_at (d := d) h0.1 (wE_arJ (G := G) h0)
  obtain ⟨k9, hk9⟩ := mP_at (d := d) h1.1 (wE_arJ (G := G) h1)
  obtain ⟨hx, hb, hml, hown, hA, hN, hK, hO, hq⟩ := id C9
  subst e1; subst e2; subst e3
  have z1 : (nI jp).toNatClampNeg = jp := nI_clamp (by omega)
  have z2 : (nI jd).toNatClampNeg = jd := nI_clamp (by omega)
  have z3 : (nI jn).toNatClampNeg = jn := nI_clamp (by omega)
  refine va_copyl hx hb (hml.trans hL.1.symm) hown (hA _ hlk) (hA _ w_ncp) (hA _ w_scp) (hA _ w_iSys) hK hW.1 hW.2.1 hW.2.2 k8 k9 1 1 hk8 hk9 rfl rfl rfl (nI_pos (by omega)) (nI_pos (by omega)) (nI_pos (by omega)) (by rw [z1, z3]; exact l0) (by rw [z2, z3]; exact l1) (fun _ _ => rfl) hfr hlo hd (fun H1 locs1 hP1 hD1 hS1 => ?_)
  rw [z1, z2, z3] at hP1 hD1
  have e9 := mP_set (Z' := Z) (d' := tJ d da (va_cpy (gJ d sa) (gJ d da) jp jd jn)) hW.2.1 h1.1 hk9 (wE_arJ h1) rfl (wE_arJ h1) (fun b hb => wE_tJ hb)
  rw [gJ_tJ, if_pos rfl] at e9
  rw [e9] at hP1 hD1
  exact kk C9 H1 locs1 ls ⟨hP1, hD1, hS1⟩ hL
end
def pic (Z : mZ) (p a : Nat) : Prop := ob Z 2 p ∧ rf Z 64 p = some a ∧ ar Z 10 a 96
/-- a scene: its pictures and their rows -/
def scn (Z : mZ) (s p q a b : Nat) : Prop := ob Z 3 s ∧ rf Z 96 s = some p ∧ rf Z 97 s = some q ∧ pic Z p a ∧ pic Z q b
def sht (Z : mZ) (h a : Nat) : Prop := ob Z 5 h ∧ rf Z 160 h = some a ∧ ar Z 11 a 24
theorem pix_ix (c r : Int32) : nI (clN r 7) * 12 + nI (clN c 11) = nI (12 * clN r 7 + clN c 11) := by
  rw [show (12 : Int32) = nI 12 from rfl, pk_mul, nI_add, Nat.mul_comm]
theorem pix_lt (c r : Int32) : 12 * clN r 7 + clN c 11 < 96 := by
  have h1 := clN_le r (m := 7) (by omega)
  have h2 := clN_le c (m := 11) (by omega)
  omega
/-- how many of n places from i on are so -/
def cntL (p : Nat → Bool) : Nat → Nat → Int32 → Int32
  | 0, _, acc => acc
  | n + 1, i, acc => cntL p n (i + 1) (if p i then acc + 1 else acc)
/-- a dot of the picture of half the size -/
def hpix (f : Nat → Int32) (c r : Int32) : Int32 :=
  (f (24 * clN r 3 + 2 * clN c 5) + f (24 * clN r 3 + 2 * clN c 5 + 1) + f (24 * clN r 3 + 2 * clN c 5 + 12) + f (24 * clN r 3 + 2 * clN c 5 + 12 + 1)) / 4
theorem hpix_lt (c r : Int32) : 24 * clN r 3 + 2 * clN c 5 + 13 < 96 := by
  have h1 := clN_le r (m := 3) (by omega)
  have h2 := clN_le c (m := 5) (by omega)
  omega
theorem hpix_ix (c r : Int32) : 2 * nI (clN r 3) * 12 + 2 * nI (clN c 5) = nI (24 * clN r 3 + 2 * clN c 5) := by
  rw [show (12 : Int32) = nI 12 from rfl, show (2 : Int32) = nI 2 from rfl, pk_mul, pk_mul, pk_mul, nI_add]
  congr 1
  omega
/-- the draw, one turn on -/
def drwI (v : Int32) : Int32 := v * 1103515245 + 12345 &&& 2147483647
def drwN (v : Int32) : Nat := (drwI v).toNatClampNeg
theorem drw_nI (v : Int32) : drwI v = nI (drwN v) ∧ drwN v < 2 ^ 31 := by
  obtain ⟨j, hj, e⟩ := pk_andE (v * 1103515245 + 12345) (m := 2147483647) 31 (by decide +kernel)
  have e2 : drwN v = j := by
    show (drwI v).toNatClampNeg = j
    rw [show drwI v = nI j from e, nI_clamp hj]
  exact ⟨by rw [e2]; exact e, by rw [e2]; exact hj⟩
def turF (f : Nat → Int32) (v : Int32) : Nat → Int32 := upd f (drwN v / 65536 % 96) (nI (drwN v / 65536 / 96 % 10))
abbrev spn (sz i n : Int32) : Prop := 0 ≤ i ∧ 0 ≤ n ∧ i ≤ sz ∧ n ≤ sz - i
def refI (held lane size asl i n : Int32) : Int32 := if held = 0 then -1000011 else if lane = asl then (if spn size i n then 0 else -1000013) else -1000012
def cutL (lane : Int32) (v : Int64) : Int64 := if lane = 0 then v.toInt32.toInt8.toInt32.toInt64 else if lane = 1 then v.toInt32.toInt16.toInt32.toInt64 else if lane = 2 then v.toInt32.toInt64 else v
/-- n places from i on become v -/
def filJ (v : Int64) (f : Nat → Int64) : Nat → Nat → Nat → Int64
  | 0, _ => f
  | n + 1, i => filJ v (vp_updL f i v) n (i + 1)
