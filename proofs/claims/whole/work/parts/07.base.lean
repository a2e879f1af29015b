/-! ===== the words that every method of the system may use ===== -/
def AW : List Cond := lw_tbl.filter goodWord
theorem AW_good : ∀ w ∈ AW, (w.onTables && w.keeps) = true ∨ ∃ ty, w = .arrayClass ty := fun _ h => good_of_word (List.mem_filter.mp h).2
theorem AW_in {w : Cond} (i : Nat) (h : lw_tbl[i]? = some w) (hg : goodWord w = true) : w ∈ AW := List.mem_filter.mpr ⟨List.mem_of_getElem? h, hg⟩
def mIsN : Cond → Bool
  | .fieldLinkNest .. => true
  | .methodLinkNest .. => true
  | .arrayOver (.object _) => true
  | _ => false
def NW : List Cond := lw_tbl.filter mIsN
theorem NW_in {w : Cond} (i : Nat) (h : lw_tbl[i]? = some w) (hg : mIsN w = true) : w ∈ NW := List.mem_filter.mpr ⟨List.mem_of_getElem? h, hg⟩
def mNs (U : State) : Prop := ∀ w ∈ NW, va_Nw w U
theorem mNs.warm {s U : State} (hW : s.WarmedH U.vm) (h : mNs s) : mNs U := by
  intro w hw
  have h1 := h w hw
  have h2 := (List.mem_filter.mp hw).2
  match w, h1, h2 with
  | .fieldLinkNest a i b n d h, h1, _ => exact va_Nw.warmF hW h1
  | .methodLinkNest a i x h, h1, _ => exact va_Nw.warmM hW h1
  | .arrayOver (.object C), h1, _ => exact va_AO.moved hW.alike h1
/-! ===== the pool: shape and data ===== -/
abbrev mZ : Type := List Nat × (Nat → Nat) × (Nat → Nat → Option Nat) × (Nat → Nat)
abbrev mD : Type := (Nat → Nat → Int32) × (Nat → Nat → Int32) × (Nat → Nat → Int64) × (Nat → Nat → Option Nat)
abbrev mG : Type := va_G × ClassId × ClassId × ClassId × ClassId × Nat
def gI (d : mD) (f a : Nat) : Int32 := d.1 f a
def gA (d : mD) (a : Nat) : Nat → Int32 := d.2.1 a
def gJ (d : mD) (a : Nat) : Nat → Int64 := d.2.2.1 a
def gO (d : mD) (a : Nat) : Nat → Option Nat := d.2.2.2 a
def sI (d : mD) (f a : Nat) (v : Int32) : mD := (fun g b => if g = f ∧ b = a then v else d.1 g b, d.2)
def tA (d : mD) (a : Nat) (f : Nat → Int32) : mD := (d.1, fun b => if b = a then f else d.2.1 b, d.2.2)
def tJ (d : mD) (a : Nat) (f : Nat → Int64) : mD := (d.1, d.2.1, fun b => if b = a then f else d.2.2.1 b, d.2.2.2)
def tO (d : mD) (a : Nat) (f : Nat → Option Nat) : mD := (d.1, d.2.1, d.2.2.1, fun b => if b = a then f else d.2.2.2 b)
def mK (Z : mZ) (a : Nat) : Nat := Z.2.1 a
def rf (Z : mZ) (f a : Nat) : Option Nat := Z.2.2.1 f a
def mN (Z : mZ) (a : Nat) : Nat := Z.2.2.2 a
def ob (Z : mZ) (ci a : Nat) : Prop := a ∈ Z.1 ∧ mK Z a = ci
def ar (Z : mZ) (kd a n : Nat) : Prop := a ∈ Z.1 ∧ mK Z a = kd ∧ mN Z a = n
def wE (G : mG) (Z : mZ) (d : mD) : Nat → va_E := fun a =>
  if mK Z a = 0 then .inr (0, [va_rf (rf Z 0 a), va_rf (rf Z 1 a)])
  else if mK Z a = 1 then .inr (1, [.int (gI d 32 a), .int (gI d 33 a)])
  else if mK Z a = 2 then .inr (2, [va_rf (rf Z 64 a)])
  else if mK Z a = 3 then .inr (3, [va_rf (rf Z 96 a), va_rf (rf Z 97 a), .int (gI d 98 a), .int (gI d 99 a)])
  else if mK Z a = 4 then .inr (4, [.int (gI d 128 a), .int (gI d 129 a), .int (gI d 130 a), .int (gI d 131 a)])
  else if mK Z a = 5 then .inr (5, [va_rf (rf Z 160 a), .int (gI d 161 a), .int (gI d 162 a), .int (gI d 163 a)])
  else if mK Z a = 6 then .inr (6, [va_rf (rf Z 192 a), va_rf (rf Z 193 a), .int (gI d 194 a)])
  else if mK Z a = 7 then .inr (7, [va_rf (rf Z 224 a), .int (gI d 225 a), va_rf (rf Z 226 a), .int (gI d 227 a), .int (gI d 228 a)])
  else if mK Z a = 8 then .inr (8, [va_rf (rf Z 256 a), va_rf (rf Z 257 a), .int (gI d 258 a), va_rf (rf Z 259 a), va_rf (rf Z 260 a), va_rf (rf Z 261 a), va_rf (rf Z 262 a), va_rf (rf Z 263 a), va_rf (rf Z 264 a)])
  else if mK Z a = 9 then .inr (9, [va_rf (rf Z 288 a), va_rf (rf Z 289 a), .int (gI d 290 a), .int (gI d 291 a), .int (gI d 292 a), va_rf (rf Z 293 a), va_rf (rf Z 294 a), .int (gI d 295 a), .int (gI d 296 a), va_rf (rf Z 297 a), va_rf (rf Z 298 a), .int (gI d 299 a), va_rf (rf Z 300 a), va_rf (rf Z 301 a), .int (gI d 302 a), va_rf (rf Z 303 a), va_rf (rf Z 304 a), va_rf (rf Z 305 a), va_rf (rf Z 306 a)])
  else if mK Z a = 10 then .inl (G.2.1, mN Z a, .inl (gA d a))
  else if mK Z a = 11 then .inl (G.2.2.1, mN Z a, .inr (.inl (gJ d a)))
  else if mK Z a = 12 then .inl (G.2.2.2.1, mN Z a, .inr (.inr (.inr (.inr (gO d a)))))
  else .inl (G.2.2.2.2.1, mN Z a, .inr (.inr (.inr (.inr (gO d a)))))
abbrev mP (G : mG) (Z : mZ) (d : mD) : va_W := va_pl Z.1 (wE G Z d)
abbrev mT (G : mG) : List (ClassId × FieldType) := [(G.2.1, .int), (G.2.2.1, .long), (G.2.2.2.1, .object "MovedBlocks$Scene"), (G.2.2.2.2.1, .object "MovedBlocks$Sheet")]
/-- the order of moves, as the class's own static holds it -/
def ordL : List Int32 := [24, 17, 23, 25, 31, 10, 16, 18, 22, 26, 30, 32, 38, 3, 9, 11, 15, 19, 21, 27, 29, 33, 37, 39, 45, 2, 4, 8, 12, 14, 20, 28, 34, 36, 40, 44, 46, 1, 5, 7, 13, 35, 41, 43, 47, 0, 6, 42, 48]
def ordF (j : Nat) : Int32 := ordL.getD j 0
def mOT (t : Nat) (A : Nat → Prop) (U : State) (H : Heap) : Prop := va_Z "MovedBlocks" "ORDER" "[I" (.ref t) A U H ∧ va_T .int t 49 (fun j => .int (ordF j)) A U H
abbrev mF : Type := Program × Env × State × MethodId × Array Value × List Frame × Method × Code × (Nat → Prop) × (State → Prop)
def mCx (G : mG) (X : mF) (own : String) (cc : ByteArray) (nL : Nat) : Prop :=
  X.1.tables.exec = Jvm.exec ∧ X.2.2.2.2.2.2.2.1.code = cc ∧ X.2.2.2.2.2.2.2.1.maxLocals = nL ∧ X.2.2.1.vm.findClass own = some X.2.2.2.1.cls ∧ (∀ w ∈ AW, w.before X.2.2.2.2.1 X.2.2.1 = true) ∧ mNs X.2.2.1 ∧ va_K G.1 vwCl (mT G) X.2.2.1 ∧ mOT G.2.2.2.2.2 X.2.2.2.2.2.2.2.2.1 X.2.2.1 X.2.2.1.heap ∧ (∀ q, X.2.2.1.heap.size ≤ q → X.2.2.2.2.2.2.2.2.1 q)
def mWd (G : mG) (X : mF) (Z : mZ) (d : mD) (H : Heap) (locs : List Loc) : Prop := va_P G.1 vwCl (mP G Z d) H ∧ va_D X.2.2.2.2.2.2.2.2.1 (mP G Z d) ∧ va_S X.2.2.2.2.2.2.2.2.1 X.2.2.1.heap H locs
def mLv (ls : Array Slot) (nL : Nat) (lv : List (Option Value)) : Prop := ls.size = nL ∧ lv_wf ls ∧ lv.length ≤ nL ∧ ∀ (k : Nat) (v : Value), lv[k]? = some (some v) → ls[k]? = some (.val v)
def mGo (l : Launch) (G : mG) (R : Room) (X : mF) (own : String) (cc : ByteArray) (nL k n : Nat) (Z : mZ) (pc : Nat) (lv : List (Option Value)) (st : List Value) (d : mD) : Prop :=
  mCx G X own cc nL → ∀ (H : Heap) (locs : List Loc) (ls : Array Slot), mWd G X Z d H locs → mLv ls nL lv → W X.1 l X.2.1 R X.2.2.1 X.2.2.2.1 X.2.2.2.2.1 X.2.2.2.2.2.1 X.2.2.2.2.2.2.1 X.2.2.2.2.2.2.2.1 H locs k n X.2.2.2.2.2.2.2.2.2 (F0 X.2.2.2.1 pc ls st)
/-! ===== locals ===== -/
def mPr : Nat → List (Option Value) → List (Nat × Value)
  | _, [] => []
  | i, none :: r => mPr (i + 1) r
  | i, some v :: r => (i, v) :: mPr (i + 1) r
theorem mPr_mem : ∀ (lv : List (Option Value)) (i j : Nat) (v : Value), (j, v) ∈ mPr i lv ↔ ∃ k, j = i + k ∧ lv[k]? = some (some v)
  | [], i, j, v => by simp [mPr]
  | none :: r, i, j, v => by
    rw [mPr, mPr_mem r (i + 1) j v]
    constructor
    · rintro ⟨k, h1, h2⟩; exact ⟨k + 1, by omega, by simpa using h2⟩
    · rintro ⟨k, h1, h2⟩
      cases k with
      | zero => simp at h2
      | succ k => exact ⟨k, by omega, by simpa using h2⟩
  | some w :: r, i, j, v => by
    rw [mPr, List.mem_cons, mPr_mem r (i + 1) j v]
    constructor
    · rintro (h | ⟨k, h1, h2⟩)
      · cases h; exact ⟨0, rfl, rfl⟩
      · exact ⟨k + 1, by omega, by simpa using h2⟩
    · rintro ⟨k, h1, h2⟩
      cases k with
      | zero => left; simp at h2; subst h2; simp [h1]
      | succ k => right; exact ⟨k, by omega, by simpa using h2⟩
theorem mLv.has {ls : Array Slot} {nL : Nat} {lv : List (Option Value)} (h : mLv ls nL lv) : lv_has ls nL (mPr 0 lv) := ⟨h.1, h.2.1, fun q hq => by
  obtain ⟨j, v⟩ := q
  obtain ⟨k, h1, h2⟩ := (mPr_mem lv 0 j v).mp hq
  have := h.2.2.2 k v h2
  simp only [Nat.zero_add] at h1
  subst h1
  exact this⟩
/-- the local ahead of place i is no long, no double -/
def mC1 (o : Option Value) : Bool := match o with
  | some (.long _) => false
  | some (.double _) => false
  | _ => true
def mPrev (lv : List (Option Value)) (i : Nat) : Bool := match i with
  | 0 => true
  | j + 1 => mC1 (lv.getD j none)
theorem mPrev_cat {lv : List (Option Value)} {i : Nat} (h : mPrev lv i = true) {j : Nat} {v : Value} (hj : j + 1 = i) (hv : lv[j]? = some (some v)) : ¬ v.category = 2 := by
  subst hj
  simp only [mPrev, List.getD_eq_getElem?_getD, hv, Option.getD_some] at h
  cases v <;> simp_all [mC1, Value.category]
theorem mLv.of {ls : Array Slot} {nL : Nat} {lv : List (Option Value)} {i : Nat} {v : Value} (hl : lv.length ≤ nL) (hp : mPrev lv i = true) (hc : v.category = 1) (h : lv_has ls nL ((i, v) :: (mPr 0 lv).filter (fun q => !(q.1 == i) && !(q.1 + 1 == i && q.2.category == 2)))) : mLv ls nL (lv.set i (some v)) := by
  refine ⟨h.1, h.2.1, by simpa using hl, fun k w hk => ?_⟩
  by_cases hki : k = i
  · subst hki
    by_cases hlt : k < lv.length
    · rw [List.getElem?_set_self hlt] at hk
      have e : v = w := Option.some.inj (Option.some.inj hk)
      exact h.2.2 (k, w) (by rw [e]; exact List.mem_cons_self)
    · rw [List.getElem?_eq_none (by simpa using Nat.not_lt.mp hlt)] at hk
      cases hk
  · rw [List.getElem?_set_ne (Ne.symm hki)] at hk
    refine h.2.2 (k, w) (List.mem_cons_of_mem _ (List.mem_filter.mpr ⟨(mPr_mem lv 0 k w).mpr ⟨k, by omega, hk⟩, ?_⟩))
    simp only [Bool.and_eq_true, Bool.not_eq_true', beq_eq_false_iff_ne, ne_eq, Bool.and_eq_false_iff]
    refine ⟨hki, ?_⟩
    by_cases hk1 : k + 1 = i
    · exact Or.inr (mPrev_cat hp hk1 hk)
    · exact Or.inl hk1
