/-! both objects, new -/
theorem mkS_sR {Z : mZ} {d : mD} {s : Nat} (h : mkS Z d s) : sR Z d s (upd (fun _ => 0) 193 1) := by
  obtain ⟨⟨p, q, h1, h2, h3, ⟨A, hA, hA0⟩, ⟨B, hB, hB0⟩⟩, h6, h7⟩ := h
  have e1 : oA Z s = A := by unfold oA; rw [h2]; show ((rf Z 64 p)).getD 0 = A; rw [hA.2.1]; rfl
  have e2 : nA Z s = B := by unfold nA; rw [h3]; show ((rf Z 64 q)).getD 0 = B; rw [hB.2.1]; rfl
  refine ⟨fun j hj => ?_, fun j hj => ?_, ?_, ?_⟩
  · rw [e1, hA0]; unfold upd; rw [if_neg (by omega)]
  · show _ = upd (fun _ => 0) 193 1 (96 + j)
    rw [e2, hB0]; unfold upd; rw [if_neg (by omega)]
  · rw [h6]; unfold upd; rw [if_neg (by decide)]
  · rw [h7]; unfold upd; rw [if_pos rfl]
theorem vR_0 : vR (upd (fun _ => 0) 193 1) := by
  refine ⟨fun k hk => ?_, fun k hk => ?_, ⟨0, by decide, ?_⟩, ?_⟩
  · unfold upd; rw [if_neg (by omega)]; show 0 ≤ (0 : Int32).toInt ∧ (0 : Int32).toInt ≤ 9; decide
  · show 0 ≤ (upd (fun _ => 0) 193 1 (96 + k)).toInt ∧ (upd (fun _ => 0) 193 1 (96 + k)).toInt ≤ 9
    unfold upd; rw [if_neg (by omega)]; show 0 ≤ (0 : Int32).toInt ∧ (0 : Int32).toInt ≤ 9; decide
  · unfold upd; rw [if_neg (by decide)]; rfl
  · unfold upd; rw [if_pos rfl]; decide
theorem stq_ps {Z : mZ} {d : mD} {t sc pa : Nat} (h : stq Z d t sc pa) {i : Nat} (hi : i < 8) : gO d pa i = some (psO d pa i) ∧ mkS Z d (psO d pa i) ∧ nO Z (psO d pa i) := by
  obtain ⟨s, a1, a2, a3⟩ := h.2.2.2.2.2.2.1 i hi
  have e : psO d pa i = s := by unfold psO; rw [a1]; rfl
  rw [e]
  exact ⟨a1, a2, a3⟩
theorem CR_0 {Z Z2 : mZ} {d1 d2 : mD} {x st kp tp sr ha fi sp sh sc pa kc kq le dt mo ne m nw od fd tr rd ah kr ka ln sz it mv : Nat} (h1 : clN0 Z d1 x st kp tp sr ha fi sp sh sc pa kc kq le dt mo ne) (h2 : mdN0 Z2 d2 m nw od fd tr rd ah kr ka ln sz it mv) : CR Z d1 d2 x st kp tp sh sc pa kc kq le m nw od tr ah kr ka ln sz it := by
  obtain ⟨hx, hi, q1, q2, hc, h258, h225, hsp, hsh, hshd⟩ := h1
  obtain ⟨hm, hi2, m1, m2, m3, m4, m5, m6, m7, m8⟩ := h2
  have hps : ∀ i, i < 4 → gO d1 sh i = some (psO d1 sh i) ∧ mkH Z d1 (psO d1 sh i) := fun i hi => by
    obtain ⟨h, a1, a2⟩ := hsh i hi
    have e : psO d1 sh i = h := by unfold psO; rw [a1]; rfl
    rw [e]
    exact ⟨a1, a2⟩
  refine ⟨⟨fun i hi => ⟨(stq_ps q1 hi).1, mkS_scv (stq_ps q1 hi).2.1⟩, fun i hi => ⟨(stq_ps q2 hi).1, mkS_scv (stq_ps q2 hi).2.1⟩, fun i hi => ⟨(stq_ps q1 hi).2.2, (stq_ps q2 hi).2.2⟩, fun i j hi hj hn e => q1.2.2.2.2.2.2.2 i j hi hj hn (by rw [(stq_ps q1 hi).1, (stq_ps q1 hj).1, e]), fun i j hi hj hn e => q2.2.2.2.2.2.2.2 i j hi hj hn (by rw [(stq_ps q2 hi).1, (stq_ps q2 hj).1, e]), fun i j hi hj e => hc i j hi hj (by rw [(stq_ps q1 hi).1, (stq_ps q2 hj).1, e])⟩, ⟨0, ⟨q1.2.2.2.2.2.1, by decide, by rw [m1]; exact mkS_sR q1.2.2.2.1, by rw [m1]; exact vR_0, fun i hi => absurd hi (by omega)⟩, m7⟩, ⟨0, q2.2.2.2.2.2.1, by decide, Or.inl ⟨h258, m8⟩⟩, ⟨0, tpR_0 h225 m6⟩, m2, ⟨fun i hi => ⟨(hps i hi).1, ?_⟩, fun i j hi hj hn e => hshd i j hi hj hn (by rw [(hps i hi).1, (hps j hj).1, e]), fun i hi => ?_⟩⟩
  · obtain ⟨⟨A, hA, _⟩, _⟩ := (hps i hi).2
    have e : iA Z (psO d1 sh i) = A := by unfold iA; rw [hA.2.1]; rfl
    rw [e]; exact hA
  · obtain ⟨⟨A, hA, hJ⟩, g1, g2, g3⟩ := (hps i hi).2
    have e : iA Z (psO d1 sh i) = A := by unfold iA; rw [hA.2.1]; rfl
    refine ⟨⟨fun _ => by rw [m3 i hi]; decide, fun _ => g1⟩, fun q => absurd g1 q, ⟨0, by decide, g3, by rw [m4]; rfl⟩, fun j hj => ?_⟩
    rw [e, hJ, m5]
/-! an empty pool -/
def zE : mZ := ([], fun _ => 0, fun _ _ => none, fun _ => 0)
def dE : mD := (fun _ _ => 0, fun _ _ => 0, fun _ _ => 0, fun _ _ => none)
theorem oI_E : oI zE := ⟨fun f b c h => (by cases h), fun f b g a c h => (by cases h)⟩
theorem nO_E (a : Nat) : nO zE a := fun f b h => (by cases h)
theorem gI_born (d : mD) (q f : Nat) : gI (dN d q) f q = 0 := by rw [gI_dN, if_pos rfl]
/-- an object new beside a pool -/
theorem mP_2 {G : mG} {Z : mZ} {d : mD} {q : Nat} (k : Nat) (hq : q ∉ Z.1) : mP G (zN Z q k 0) (dN d q) = mP G (zJ Z (zN zE q k 0)) (dJ Z d (dN dE q)) := by
  have hdis : ∀ a, a ∈ Z.1 → a ∉ (zN zE q k 0).1 := fun a h1 h2 => by
    rcases mem_zN.mp h2 with h | h
    · cases h
    · exact hq (h ▸ h1)
  have e : wE G (zN zE q k 0) (dN dE q) q = wE G (zN Z q k 0) (dN d q) q := wE_cg (by rw [mK_zN, mK_zN, if_pos rfl, if_pos rfl]) (fun f => by rw [rf_zN, rf_zN, if_pos rfl, if_pos rfl]) (by rw [mN_zN, mN_zN, if_pos rfl, if_pos rfl]) (fun f => by rw [gI_dN, gI_dN, if_pos rfl, if_pos rfl]) (by rw [gA_dN, gA_dN, if_pos rfl, if_pos rfl]) (by rw [gJ_dN, gJ_dN, if_pos rfl, if_pos rfl]) (by rw [gO_dN, gO_dN, if_pos rfl, if_pos rfl])
  rw [mP_J hdis, ← mP_new (G := G) (d := d) (k := k) (n := 0) hq rfl, ← e]
  rfl
