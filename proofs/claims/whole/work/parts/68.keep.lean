/-- two data of the class that agree in the scenes and stories -/
def agS (Z : mZ) (sp : Nat) (d e : mD) : Prop := (∀ s, scv Z s → s ≠ sp → gA e (oA Z s) = gA d (oA Z s) ∧ gA e (nA Z s) = gA d (nA Z s) ∧ gI e 98 s = gI d 98 s ∧ gI e 99 s = gI d 99 s) ∧ (∀ a, gI e 194 a = gI d 194 a ∧ gI e 258 a = gI d 258 a) ∧ ∀ a, gO e a = gO d a
theorem psO_agS {Z : mZ} {sp : Nat} {d e : mD} (h : agS Z sp d e) (pa i : Nat) : psO e pa i = psO d pa i := by unfold psO; rw [h.2.2]
theorem sR_agS {Z : mZ} {sp s : Nat} {d e : mD} {w : Nat → Int32} (h : agS Z sp d e) (hs : scv Z s) (hn : s ≠ sp) (hr : sR Z d s w) : sR Z e s w := by
  obtain ⟨a1, a2, a3, a4⟩ := h.1 s hs hn
  unfold sR
  rw [a1, a2, a3, a4]
  exact hr
theorem pst_agS {Z : mZ} {sp : Nat} {d e : mD} (h : agS Z sp d e) {pa : Nat} (hp : pst Z d pa) : pst Z e pa := fun i hi => by
  rw [psO_agS h, h.2.2]; exact hp i hi
theorem psA_agS {Z : mZ} {sp pa kq : Nat} {d e : mD} (h : agS Z sp d e) (hp : psA Z d pa kq) : psA Z e pa kq := by
  obtain ⟨p1, p2, p3, p4, p5, p6⟩ := hp
  refine ⟨pst_agS h p1, pst_agS h p2, fun i hi => ?_, fun i j hi hj hn => ?_, fun i j hi hj hn => ?_, fun i j hi hj => ?_⟩
  · rw [psO_agS h, psO_agS h]; exact p3 i hi
  · rw [psO_agS h, psO_agS h]; exact p4 i j hi hj hn
  · rw [psO_agS h, psO_agS h]; exact p5 i j hi hj hn
  · rw [psO_agS h, psO_agS h]; exact p6 i j hi hj
theorem stR_agS {Z : mZ} {sp st sc pa k : Nat} {d e : mD} {w g : Nat → Int32} (h : agS Z sp d e) (hsc : scv Z sc) (hn : sc ≠ sp) (hp : pst Z d pa) (hq : ∀ i, i < 8 → psO d pa i ≠ sp) (hr : stR Z d st sc pa k w g) : stR Z e st sc pa k w g := by
  obtain ⟨r1, r2, r3, r4, r5⟩ := hr
  refine ⟨by rw [(h.2.1 st).1, r1], r2, sR_agS h hsc hn r3, r4, fun i hi => ?_⟩
  rw [psO_agS h]
  exact ⟨sR_agS h (hp i (by omega)).2 (hq i (by omega)) (r5 i hi).1, (r5 i hi).2⟩
/-- tape and sheets apart from the rest -/
theorem CR_agS {Z : mZ} {d1 e1 d2 e2 : mD} {x st kp tp sr ha fi sp sh sc pa kc kq le dt mo ne m nw od tr ah kr ka ln sz it : Nat} (hx : clS Z x st kp tp sr ha fi sp sh sc pa kc kq le dt mo ne) (h : agS Z sp d1 e1) (g1 : gA e2 nw = gA d2 nw) (g2 : gA e2 od = gA d2 od) (g3 : gA e2 ah = gA d2 ah) (g4 : gA e2 kr = gA d2 kr) (g5 : gA e2 ka = gA d2 ka) (g6 : gI e2 299 m = gI d2 299 m) (g7 : gI e2 302 m = gI d2 302 m) (ht : ∃ n, tpR e1 e2 tp le m tr n) (hs : shR Z e1 e2 sh ln sz it) (hr : CR Z d1 d2 x st kp tp sh sc pa kc kq le m nw od tr ah kr ka ln sz it) : CR Z e1 e2 x st kp tp sh sc pa kc kq le m nw od tr ah kr ka ln sz it := by
  obtain ⟨r1, ⟨k, r2, r2'⟩, ⟨k2, r3, r3', r3q⟩, _, r5, _⟩ := hr
  have q1 : ∀ i, i < 8 → psO d1 pa i ≠ sp := fun i hi => nO_ne (r1.2.2.1 i hi).1 hx.r7
  have q2 : ∀ i, i < 8 → psO d1 kq i ≠ sp := fun i hi => nO_ne (r1.2.2.1 i hi).2 hx.r7
  refine ⟨psA_agS h r1, ⟨k, by rw [g1, g3]; exact stR_agS h hx.scV hx.n1 r1.1 q1 r2, by rw [g6]; exact r2'⟩, ⟨k2, by rw [(h.2.1 kp).1, r3], r3', ?_⟩, ht, by rw [g2]; exact r5, hs⟩
  rw [(h.2.1 x).2, g7, g4, g5]
  rcases r3q with q | q
  · exact Or.inl q
  · exact Or.inr ⟨q.1, q.2.1, stR_agS h hx.kcV hx.n2 r1.2.1 q2 q.2.2⟩
