/-- a scene of the class and a row of the reference -/
def sR (Z : mZ) (d : mD) (s : Nat) (w : Nat → Int32) : Prop := pE (gA d (oA Z s)) w ∧ pE (gA d (nA Z s)) (fun k => w (96 + k)) ∧ gI d 98 s = w 192 ∧ gI d 99 s = w 193
def vR (w : Nat → Int32) : Prop := dB w ∧ dB (fun k => w (96 + k)) ∧ (∃ k, k < 5 ∧ w 192 = nI k) ∧ 0 ≤ w 193
def rwA (g : Nat → Int32) (i : Nat) : Nat → Int32 := fun j => g (194 * i + j)
/-- the past of both stories: cells that no field names, each another one -/
def psA (Z : mZ) (d : mD) (pa kq : Nat) : Prop := pst Z d pa ∧ pst Z d kq ∧ (∀ i, i < 8 → nO Z (psO d pa i) ∧ nO Z (psO d kq i)) ∧ (∀ i j, i < 8 → j < 8 → i ≠ j → psO d pa i ≠ psO d pa j) ∧ (∀ i j, i < 8 → j < 8 → i ≠ j → psO d kq i ≠ psO d kq j) ∧ ∀ i j, i < 8 → j < 8 → psO d pa i ≠ psO d kq j
/-- a story and what the reference holds of it -/
def stR (Z : mZ) (d : mD) (st sc pa k : Nat) (w g : Nat → Int32) : Prop := gI d 194 st = nI k ∧ k ≤ 8 ∧ sR Z d sc w ∧ vR w ∧ ∀ i, i < k → sR Z d (psO d pa i) (rwA g i) ∧ vR (rwA g i)
def keR (Z : mZ) (d1 : mD) (x kp kc kq : Nat) (z : Int32) (w g : Nat → Int32) : Prop := ∃ k, gI d1 194 kp = nI k ∧ k ≤ 8 ∧ ((gI d1 258 x = 0 ∧ z = -1) ∨ (¬ gI d1 258 x = 0 ∧ z = nI k ∧ stR Z d1 kp kc kq k w g))
def tpR (d1 d2 : mD) (tp le m tr n : Nat) : Prop := gI d1 225 tp = nI n ∧ gI d2 295 m = nI n ∧ n ≤ 120 ∧ (∀ i, i < n → gA d1 le i = gA d2 tr i) ∧ lB (gA d2 tr) n
def shR (Z : mZ) (d1 d2 : mD) (sh ln sz it : Nat) : Prop := shs Z d1 sh ∧ (∀ i j, i < 4 → j < 4 → i ≠ j → psO d1 sh i ≠ psO d1 sh j) ∧ ∀ i, i < 4 → (gI d1 161 (psO d1 sh i) = 0 ↔ gA d2 ln i < 0) ∧ (¬ gI d1 161 (psO d1 sh i) = 0 → gI d1 162 (psO d1 sh i) = gA d2 ln i) ∧ (∃ z, z ≤ 24 ∧ gI d1 163 (psO d1 sh i) = nI z ∧ gA d2 sz i = nI z) ∧ ∀ j, j < 24 → gJ d1 (iA Z (psO d1 sh i)) j = gJ d2 it (24 * i + j)
/-- both hold the same -/
def CR (Z : mZ) (d1 d2 : mD) (x st kp tp sh sc pa kc kq le m nw od tr ah kr ka ln sz it : Nat) : Prop := psA Z d1 pa kq ∧ (∃ k, stR Z d1 st sc pa k (gA d2 nw) (gA d2 ah) ∧ gI d2 299 m = nI k) ∧ keR Z d1 x kp kc kq (gI d2 302 m) (gA d2 kr) (gA d2 ka) ∧ (∃ n, tpR d1 d2 tp le m tr n) ∧ (∀ j, j < 49 → gA d2 od j = ordF j) ∧ shR Z d1 d2 sh ln sz it
/-- two data of the class that agree in all that lasts -/
def agC (Z : mZ) (sp le : Nat) (d e : mD) : Prop := (∀ s, scv Z s → s ≠ sp → gA e (oA Z s) = gA d (oA Z s) ∧ gA e (nA Z s) = gA d (nA Z s) ∧ gI e 98 s = gI d 98 s ∧ gI e 99 s = gI d 99 s) ∧ (∀ a, gI e 194 a = gI d 194 a ∧ gI e 258 a = gI d 258 a ∧ gI e 225 a = gI d 225 a ∧ gI e 161 a = gI d 161 a ∧ gI e 162 a = gI d 162 a ∧ gI e 163 a = gI d 163 a) ∧ gA e le = gA d le ∧ (∀ a, gO e a = gO d a) ∧ ∀ a, gJ e a = gJ d a
def agM (m nw od tr ah kr ka ln sz it : Nat) (d e : mD) : Prop := gA e nw = gA d nw ∧ gA e od = gA d od ∧ gA e tr = gA d tr ∧ gA e ah = gA d ah ∧ gA e kr = gA d kr ∧ gA e ka = gA d ka ∧ gA e ln = gA d ln ∧ gA e sz = gA d sz ∧ gJ e it = gJ d it ∧ gI e 299 m = gI d 299 m ∧ gI e 302 m = gI d 302 m ∧ gI e 295 m = gI d 295 m
theorem sR_ag {Z : mZ} {sp le s : Nat} {d e : mD} {w : Nat → Int32} (h : agC Z sp le d e) (hs : scv Z s) (hn : s ≠ sp) (hr : sR Z d s w) : sR Z e s w := by
  obtain ⟨a1, a2, a3, a4⟩ := h.1 s hs hn
  unfold sR
  rw [a1, a2, a3, a4]
  exact hr
theorem psO_ag {Z : mZ} {sp le : Nat} {d e : mD} (h : agC Z sp le d e) (pa i : Nat) : psO e pa i = psO d pa i := by unfold psO; rw [h.2.2.2.1]
theorem pst_ag {Z : mZ} {sp le : Nat} {d e : mD} (h : agC Z sp le d e) {pa : Nat} (hp : pst Z d pa) : pst Z e pa := fun i hi => by
  rw [psO_ag h, h.2.2.2.1]; exact hp i hi
theorem psA_ag {Z : mZ} {sp le pa kq : Nat} {d e : mD} (h : agC Z sp le d e) (hp : psA Z d pa kq) : psA Z e pa kq := by
  obtain ⟨p1, p2, p3, p4, p5, p6⟩ := hp
  refine ⟨pst_ag h p1, pst_ag h p2, fun i hi => ?_, fun i j hi hj hn => ?_, fun i j hi hj hn => ?_, fun i j hi hj => ?_⟩
  · rw [psO_ag h, psO_ag h]; exact p3 i hi
  · rw [psO_ag h, psO_ag h]; exact p4 i j hi hj hn
  · rw [psO_ag h, psO_ag h]; exact p5 i j hi hj hn
  · rw [psO_ag h, psO_ag h]; exact p6 i j hi hj
theorem stR_ag {Z : mZ} {sp le st sc pa k : Nat} {d e : mD} {w g : Nat → Int32} (h : agC Z sp le d e) (hsc : scv Z sc) (hn : sc ≠ sp) (hp : pst Z d pa) (hq : ∀ i, i < 8 → psO d pa i ≠ sp) (hr : stR Z d st sc pa k w g) : stR Z e st sc pa k w g := by
  obtain ⟨r1, r2, r3, r4, r5⟩ := hr
  refine ⟨by rw [(h.2.1 st).1, r1], r2, sR_ag h hsc hn r3, r4, fun i hi => ?_⟩
  rw [psO_ag h]
  exact ⟨sR_ag h (hp i (by omega)).2 (hq i (by omega)) (r5 i hi).1, (r5 i hi).2⟩
theorem shR_ag {Z : mZ} {sp le sh ln sz it : Nat} {d1 e1 d2 : mD} (h : agC Z sp le d1 e1) (hr : shR Z d1 d2 sh ln sz it) : shR Z e1 d2 sh ln sz it := by
  obtain ⟨r1, r2, r3⟩ := hr
  refine ⟨fun i hi => ?_, fun i j hi hj hn => ?_, fun i hi => ?_⟩
  · rw [psO_ag h, h.2.2.2.1]; exact r1 i hi
  · rw [psO_ag h, psO_ag h]; exact r2 i j hi hj hn
  · rw [psO_ag h, (h.2.1 _).2.2.2.1, (h.2.1 _).2.2.2.2.1, (h.2.1 _).2.2.2.2.2, h.2.2.2.2]
    exact r3 i hi
theorem nO_ne {Z : mZ} {s f b c : Nat} (h : nO Z s) (hc : rf Z f b = some c) : s ≠ c := fun e => h f b (e ▸ hc)
/-- what doesn't last changes nothing -/
theorem CR_agC {Z : mZ} {d1 e1 d2 : mD} {x st kp tp sr ha fi sp sh sc pa kc kq le dt mo ne m nw od tr ah kr ka ln sz it : Nat} (hx : clS Z x st kp tp sr ha fi sp sh sc pa kc kq le dt mo ne) (h : agC Z sp le d1 e1) (hr : CR Z d1 d2 x st kp tp sh sc pa kc kq le m nw od tr ah kr ka ln sz it) : CR Z e1 d2 x st kp tp sh sc pa kc kq le m nw od tr ah kr ka ln sz it := by
  obtain ⟨r1, ⟨k, r2, r2'⟩, ⟨k2, r3, r3', r3q⟩, ⟨n, r4⟩, r5, r6⟩ := hr
  have q1 : ∀ i, i < 8 → psO d1 pa i ≠ sp := fun i hi => nO_ne (r1.2.2.1 i hi).1 hx.r7
  have q2 : ∀ i, i < 8 → psO d1 kq i ≠ sp := fun i hi => nO_ne (r1.2.2.1 i hi).2 hx.r7
  refine ⟨psA_ag h r1, ⟨k, stR_ag h hx.scV hx.n1 r1.1 q1 r2, r2'⟩, ⟨k2, by rw [(h.2.1 kp).1, r3], r3', ?_⟩, ⟨n, by rw [(h.2.1 tp).2.2.1]; exact r4.1, r4.2.1, r4.2.2.1, by rw [h.2.2.1]; exact r4.2.2.2.1, r4.2.2.2.2⟩, r5, shR_ag h r6⟩
  rw [(h.2.1 x).2.1]
  rcases r3q with q | q
  · exact Or.inl q
  · exact Or.inr ⟨q.1, q.2.1, stR_ag h hx.kcV hx.n2 r1.2.1 q2 q.2.2⟩
theorem CR_agM {Z : mZ} {d1 d2 e2 : mD} {x st kp tp sh sc pa kc kq le m nw od tr ah kr ka ln sz it : Nat} (h : agM m nw od tr ah kr ka ln sz it d2 e2) (hr : CR Z d1 d2 x st kp tp sh sc pa kc kq le m nw od tr ah kr ka ln sz it) : CR Z d1 e2 x st kp tp sh sc pa kc kq le m nw od tr ah kr ka ln sz it := by
  obtain ⟨h1, h2, h3, h4, h5, h6, h7, h8, h9, h10, h11, h12⟩ := h
  unfold CR tpR shR
  rw [h1, h2, h3, h4, h5, h6, h7, h8, h9, h10, h11, h12]
  exact hr
