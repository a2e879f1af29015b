/-! what becomes of the scenes -/
theorem sR_cg {Z : mZ} {d : mD} {s : Nat} {w w' : Nat → Int32} (h : ∀ j, j < 194 → w j = w' j) (hr : sR Z d s w) : sR Z d s w' := by
  obtain ⟨a1, a2, a3, a4⟩ := hr
  refine ⟨fun j hj => (a1 j hj).trans (h j (by omega)), fun j hj => ?_, a3.trans (h 192 (by decide)), a4.trans (h 193 (by decide))⟩
  show _ = w' (96 + j)
  rw [← h (96 + j) (by omega)]
  exact a2 j hj
theorem vR_cg {w w' : Nat → Int32} (h : ∀ j, j < 194 → w j = w' j) (hr : vR w) : vR w' := by
  obtain ⟨a1, a2, a3, a4⟩ := hr
  refine ⟨fun j hj => ?_, fun j hj => ?_, ?_, ?_⟩
  · rw [← h j (by omega)]; exact a1 j hj
  · show 0 ≤ (w' (96 + j)).toInt ∧ (w' (96 + j)).toInt ≤ 9
    rw [← h (96 + j) (by omega)]; exact a2 j hj
  · rw [← h 192 (by decide)]; exact a3
  · rw [← h 193 (by decide)]; exact a4
/-- all but the scenes and stories -/
def agR (sh le : Nat) (d e : mD) : Prop := gA e le = gA d le ∧ (∀ a, gI e 225 a = gI d 225 a ∧ gI e 161 a = gI d 161 a ∧ gI e 162 a = gI d 162 a ∧ gI e 163 a = gI d 163 a) ∧ gO e sh = gO d sh ∧ ∀ a, gJ e a = gJ d a
def agN (m od tr ln sz it : Nat) (d e : mD) : Prop := gA e od = gA d od ∧ gA e tr = gA d tr ∧ gA e ln = gA d ln ∧ gA e sz = gA d sz ∧ gJ e it = gJ d it ∧ gI e 295 m = gI d 295 m
theorem agR_tr {sh le : Nat} {d e f : mD} (h : agR sh le d e) (g : agR sh le e f) : agR sh le d f :=
  ⟨g.1.trans h.1, fun a => ⟨(g.2.1 a).1.trans (h.2.1 a).1, (g.2.1 a).2.1.trans (h.2.1 a).2.1, (g.2.1 a).2.2.1.trans (h.2.1 a).2.2.1, (g.2.1 a).2.2.2.trans (h.2.1 a).2.2.2⟩, g.2.2.1.trans h.2.2.1, fun a => (g.2.2.2 a).trans (h.2.2.2 a)⟩
theorem agR_self (sh le : Nat) (d : mD) : agR sh le d d := ⟨rfl, fun _ => ⟨rfl, rfl, rfl, rfl⟩, rfl, fun _ => rfl⟩
theorem agR_sI {sh le f a : Nat} {d : mD} {v : Int32} (h : f ≠ 225 ∧ f ≠ 161 ∧ f ≠ 162 ∧ f ≠ 163) : agR sh le d (sI d f a v) :=
  ⟨rfl, fun _ => ⟨gI_ne h.1.symm _ _ _ _, gI_ne h.2.1.symm _ _ _ _, gI_ne h.2.2.1.symm _ _ _ _, gI_ne h.2.2.2.symm _ _ _ _⟩, rfl, fun _ => rfl⟩
theorem agR_tA {sh le a : Nat} {d : mD} {f : Nat → Int32} (h : le ≠ a) : agR sh le d (tA d a f) :=
  ⟨by rw [gA_tA, if_neg h], fun _ => ⟨rfl, rfl, rfl, rfl⟩, rfl, fun _ => rfl⟩
theorem agR_tO {sh le a : Nat} {d : mD} {f : Nat → Option Nat} (h : sh ≠ a) : agR sh le d (tO d a f) :=
  ⟨rfl, fun _ => ⟨rfl, rfl, rfl, rfl⟩, by rw [gO_tO, if_neg h], fun _ => rfl⟩
theorem agR_scB {Z : mZ} {sh le dt mo ne s s2 : Nat} {d : mD} (hi : mInj Z le dt mo ne) (hs : scv Z s) : agR sh le d (scBz Z d s s2) :=
  agR_tr (agR_tA (hi.2.2.2.1 s hs).1.symm) (agR_tr (agR_tA (hi.2.2.2.1 s hs).2.2.2.2.1.symm) (agR_tr (agR_sI (f := 98) (by decide)) (agR_sI (f := 99) (by decide))))
theorem sR_sI {Z : mZ} {d : mD} {s f a : Nat} {v : Int32} {w : Nat → Int32} (h : f ≠ 98 ∧ f ≠ 99) (hr : sR Z d s w) : sR Z (sI d f a v) s w :=
  ⟨hr.1, hr.2.1, by rw [gI_ne h.1.symm]; exact hr.2.2.1, by rw [gI_ne h.2.symm]; exact hr.2.2.2⟩
theorem sR_scB_at {Z : mZ} {d : mD} {le dt mo ne s s2 : Nat} {w : Nat → Int32} (hi : mInj Z le dt mo ne) (hs : scv Z s) (h2 : scv Z s2) (hr : sR Z d s2 w) : sR Z (scBz Z d s s2) s w := by
  obtain ⟨a1, a2, a3, a4⟩ := hr
  have n1 : oA Z s ≠ nA Z s := hi.2.2.1 s s hs hs
  have n2 : nA Z s2 ≠ oA Z s := (hi.2.2.1 s s2 hs h2).symm
  refine ⟨fun j hj => ?_, fun j hj => ?_, ?_, ?_⟩
  · rw [← a1 j hj]
    simp only [scBz, scB, gA_sI, gA_tA, if_neg n1, if_true]
    unfold va_cpy
    rw [if_pos (by omega)]
    congr 1; omega
  · show gA (scBz Z d s s2) (nA Z s) j = w (96 + j)
    rw [← (show gA d (nA Z s2) j = w (96 + j) from a2 j hj)]
    simp only [scBz, scB, gA_sI, gA_tA, if_neg n2, if_neg n1.symm, if_true]
    unfold va_cpy
    rw [if_pos (by omega)]
    congr 1; omega
  · rw [← a3]
    simp only [scBz, scB]
    rw [gI_ne (by decide), gI_eq]; rfl
  · rw [← a4]
    simp only [scBz, scB]
    rw [gI_eq, gI_ne (by decide)]; rfl
theorem sR_scB_ne {Z : mZ} {d : mD} {le dt mo ne s s2 s3 : Nat} {w : Nat → Int32} (hi : mInj Z le dt mo ne) (hs : scv Z s) (h3 : scv Z s3) (hn : s3 ≠ s) (hr : sR Z d s3 w) : sR Z (scBz Z d s s2) s3 w := by
  obtain ⟨a1, a2, a3, a4⟩ := hr
  have n1 : oA Z s3 ≠ oA Z s := fun e => hn (hi.1 _ _ h3 hs e)
  have n2 : nA Z s3 ≠ nA Z s := fun e => hn (hi.2.1 _ _ h3 hs e)
  have n3 : oA Z s3 ≠ nA Z s := hi.2.2.1 _ _ h3 hs
  have n4 : nA Z s3 ≠ oA Z s := (hi.2.2.1 _ _ hs h3).symm
  refine ⟨?_, ?_, ?_, ?_⟩
  · have e : gA (scBz Z d s s2) (oA Z s3) = gA d (oA Z s3) := by simp only [scBz, scB, gA_sI, gA_tA, if_neg n1, if_neg n3]
    rw [e]; exact a1
  · have e : gA (scBz Z d s s2) (nA Z s3) = gA d (nA Z s3) := by simp only [scBz, scB, gA_sI, gA_tA, if_neg n2, if_neg n4]
    rw [e]; exact a2
  · rw [← a3]; simp only [scBz, scB]
    rw [gI_ne (by decide), gI_sI, if_neg (fun q => hn q.2)]; rfl
  · rw [← a4]; simp only [scBz, scB]
    rw [gI_sI, if_neg (fun q => hn q.2), gI_ne (by decide)]; rfl
theorem shR_agR {Z : mZ} {m sh le od tr ln sz it : Nat} {d1 e1 d2 e2 : mD} (h : agR sh le d1 e1) (g : agN m od tr ln sz it d2 e2) (hr : shR Z d1 d2 sh ln sz it) : shR Z e1 e2 sh ln sz it := by
  obtain ⟨r1, r2, r3⟩ := hr
  obtain ⟨_, h2, h3, h4⟩ := h
  obtain ⟨_, _, g3, g4, g5, _⟩ := g
  have eo : ∀ i, psO e1 sh i = psO d1 sh i := fun i => by unfold psO; rw [h3]
  refine ⟨fun i hi => ?_, fun i j hi hj hn => ?_, fun i hi => ?_⟩
  · rw [eo, h3]; exact r1 i hi
  · rw [eo, eo]; exact r2 i j hi hj hn
  · rw [eo, (h2 _).2.1, (h2 _).2.2.1, (h2 _).2.2.2, h4, g3, g4, g5]; exact r3 i hi
/-- the relation from its parts -/
theorem CR_mk {Z : mZ} {d1 e1 d2 e2 : mD} {x st kp tp sh sc pa kc kq le m nw od tr ah kr ka ln sz it : Nat} (h : agR sh le d1 e1) (g : agN m od tr ln sz it d2 e2) (hp : psA Z e1 pa kq) (hs : ∃ k, stR Z e1 st sc pa k (gA e2 nw) (gA e2 ah) ∧ gI e2 299 m = nI k) (hk : keR Z e1 x kp kc kq (gI e2 302 m) (gA e2 kr) (gA e2 ka)) (hr : CR Z d1 d2 x st kp tp sh sc pa kc kq le m nw od tr ah kr ka ln sz it) : CR Z e1 e2 x st kp tp sh sc pa kc kq le m nw od tr ah kr ka ln sz it := by
  obtain ⟨r1, r2, r3, ⟨n, t1, t2, t3, t4, t5⟩, r5, r6⟩ := hr
  refine ⟨hp, hs, hk, ⟨n, ?_, ?_, t3, ?_, ?_⟩, ?_, shR_agR h g r6⟩
  · rw [(h.2.1 tp).1]; exact t1
  · rw [g.2.2.2.2.2]; exact t2
  · rw [h.1, g.2.1]; exact t4
  · rw [g.2.1]; exact t5
  · rw [g.1]; exact r5
/-- a story whose scenes stay -/
theorem stR_st {Z : mZ} {d e : mD} {st sc pa k : Nat} {w g : Nat → Int32} (h1 : gI e 194 st = gI d 194 st) (h2 : gO e pa = gO d pa) (h3 : sR Z d sc w → sR Z e sc w) (h4 : ∀ i w, i < 8 → sR Z d (psO d pa i) w → sR Z e (psO d pa i) w) (hr : stR Z d st sc pa k w g) : stR Z e st sc pa k w g := by
  obtain ⟨r1, r2, r3, r4, r5⟩ := hr
  have eo : ∀ i, psO e pa i = psO d pa i := fun i => by unfold psO; rw [h2]
  refine ⟨h1.trans r1, r2, h3 r3, r4, fun i hi => ?_⟩
  rw [eo]
  exact ⟨h4 i _ (by omega) (r5 i hi).1, (r5 i hi).2⟩
theorem keR_st {Z : mZ} {d e : mD} {x kp kc kq : Nat} {z : Int32} {w g : Nat → Int32} (h0 : gI e 258 x = gI d 258 x) (h1 : gI e 194 kp = gI d 194 kp) (h2 : gO e kq = gO d kq) (h3 : ∀ w, sR Z d kc w → sR Z e kc w) (h4 : ∀ i w, i < 8 → sR Z d (psO d kq i) w → sR Z e (psO d kq i) w) (hr : keR Z d x kp kc kq z w g) : keR Z e x kp kc kq z w g := by
  obtain ⟨k, r1, r2, r3⟩ := hr
  refine ⟨k, h1.trans r1, r2, ?_⟩
  rw [h0]
  rcases r3 with q | q
  · exact Or.inl q
  · exact Or.inr ⟨q.1, q.2.1, stR_st h1 h2 (h3 _) h4 q.2.2⟩
