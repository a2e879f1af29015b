/-- what was stays, but for the numbers of a; fields of a that name a cell go on naming it -/
def Ex (a : Nat) (Z : mZ) (d : mD) (Z' : mZ) (d' : mD) : Prop := gW Z d a Z' d' ∧ ∀ f c, rf Z f a = some c → rf Z' f a = some c
theorem Ex_tr {a : Nat} {Z Z1 Z2 : mZ} {d d1 d2 : mD} (h : Ex a Z d Z1 d1) (h' : Ex a Z1 d1 Z2 d2) : Ex a Z d Z2 d2 := by
  refine ⟨⟨fun b hb => ?_, fun f b c hc => ?_⟩, fun f c hc => h'.2 f c (h.2 f c hc)⟩
  · obtain ⟨h1, h2, h3, h4, h5, h6, h7⟩ := h.1.1 b hb
    obtain ⟨k1, k2, k3, k4, k5, k6, k7⟩ := h'.1.1 b h1
    exact ⟨k1, k2.trans h2, k3.trans h3, fun ha => ⟨fun f => ((k4 ha).1 f).trans ((h4 ha).1 f), fun f => ((k4 ha).2 f).trans ((h4 ha).2 f)⟩, k5.trans h5, k6.trans h6, k7.trans h7⟩
  · rcases h'.1.2 f b c hc with h1 | h1
    · exact h.1.2 f b c h1
    · exact Or.inr (fun h2 => h1 (h.1.1 c h2).1)
theorem Ex_rf {a : Nat} {Z Z' : mZ} {d d' : mD} (h : Ex a Z d Z' d') (hi : oI Z) {f b c : Nat} (hc : rf Z f b = some c) : rf Z' f b = some c := by
  by_cases hb : b = a
  · subst hb; exact h.2 f c hc
  · rw [((h.1.1 b (hi.1 f b c hc).1).2.2.2.1 hb).1 f, hc]
theorem Ex_self (a : Nat) (Z : mZ) (d : mD) : Ex a Z d Z d := ⟨gW_self Z d a, fun _ _ h => h⟩
theorem Ex_int {a : Nat} {Z : mZ} {d : mD} (f : Nat) (v : Int32) : Ex a Z d Z (sI d f a v) := ⟨gW_int (gW_self Z d a), fun _ _ h => h⟩
theorem Ex_ref {a f c : Nat} {Z : mZ} {d : mD} (hn : rf Z f a = none) (hc : c ∉ Z.1) : Ex a Z d (zR Z f a c) d := ⟨gW_ref (gW_self Z d a) hc, fun g x hx => by
  rw [rf_zR]
  split
  · next e => rw [e.1, hn] at hx; cases hx
  · exact hx⟩
/-- what was stays -/
def Fx (a : Nat) (Z : mZ) (d : mD) (Z' : mZ) (d' : mD) : Prop := (∀ b, b ∈ Z.1 → b ∈ Z'.1 ∧ mK Z' b = mK Z b ∧ mN Z' b = mN Z b ∧ (b ≠ a → (∀ f, rf Z' f b = rf Z f b) ∧ ∀ f, gI d' f b = gI d f b) ∧ gA d' b = gA d b ∧ gJ d' b = gJ d b) ∧ ∀ f c, rf Z f a = some c → rf Z' f a = some c
theorem Ex_fx {a : Nat} {Z Z' : mZ} {d d' : mD} (h : Ex a Z d Z' d') : Fx a Z d Z' d' := ⟨fun b hb => by obtain ⟨h1, h2, h3, h4, h5, h6, _⟩ := h.1.1 b hb; exact ⟨h1, h2, h3, h4, h5, h6⟩, h.2⟩
theorem Fx_tr {a : Nat} {Z Z1 Z2 : mZ} {d d1 d2 : mD} (h : Fx a Z d Z1 d1) (h' : Fx a Z1 d1 Z2 d2) : Fx a Z d Z2 d2 := by
  refine ⟨fun b hb => ?_, fun f c hc => h'.2 f c (h.2 f c hc)⟩
  obtain ⟨h1, h2, h3, h4, h5, h6⟩ := h.1 b hb
  obtain ⟨k1, k2, k3, k4, k5, k6⟩ := h'.1 b h1
  exact ⟨k1, k2.trans h2, k3.trans h3, fun ha => ⟨fun f => ((k4 ha).1 f).trans ((h4 ha).1 f), fun f => ((k4 ha).2 f).trans ((h4 ha).2 f)⟩, k5.trans h5, k6.trans h6⟩
theorem Fx_rf {a : Nat} {Z Z' : mZ} {d d' : mD} (h : Fx a Z d Z' d') (hi : oI Z) {f b c : Nat} (hc : rf Z f b = some c) : rf Z' f b = some c := by
  by_cases hb : b = a
  · subst hb; exact h.2 f c hc
  · rw [((h.1 b (hi.1 f b c hc).1).2.2.2.1 hb).1 f, hc]
theorem Fx_ob {a ci b : Nat} {Z Z' : mZ} {d d' : mD} (h' : Fx a Z d Z' d') (h : ob Z ci b) : ob Z' ci b := ⟨(h'.1 b h.1).1, (h'.1 b h.1).2.1.trans h.2⟩
theorem Fx_ar {a k b n : Nat} {Z Z' : mZ} {d d' : mD} (h' : Fx a Z d Z' d') (h : ar Z k b n) : ar Z' k b n := ⟨(h'.1 b h.1).1, (h'.1 b h.1).2.1.trans h.2.1, (h'.1 b h.1).2.2.1.trans h.2.2⟩
theorem Fx_new {q : Nat} {Z : mZ} {d : mD} (a k n : Nat) (hq : q ∉ Z.1) (hi : oI Z) : Fx a Z d (zN Z q k n) (dN d q) := by
  refine ⟨fun b hb => ?_, fun f c hc => ?_⟩
  · have hn : b ≠ q := fun e => hq (e ▸ hb)
    exact ⟨mem_zN.mpr (Or.inl hb), by rw [mK_zN, if_neg hn], by rw [mN_zN, if_neg hn], fun _ => ⟨fun f => by rw [rf_zN, if_neg hn], fun f => by rw [gI_dN, if_neg hn]⟩, by rw [gA_dN, if_neg hn], by rw [gJ_dN, if_neg hn]⟩
  · rw [rf_zN, if_neg (fun (e : a = q) => hq (e ▸ (hi.1 f a c hc).1)), hc]
theorem Fx_gW {q : Nat} {Z Z' : mZ} {d d' : mD} (h : gW Z d q Z' d') (hb : bar Z q) : Fx q Z d Z' d' := ⟨fun b h9 => by obtain ⟨h1, h2, h3, h4, h5, h6, _⟩ := h.1 b h9; exact ⟨h1, h2, h3, h4, h5, h6⟩, fun f c hc => by rw [hb f] at hc; cases hc⟩
theorem Fx_tO {a c : Nat} {Z : mZ} {d : mD} {g : Nat → Option Nat} : Fx a Z d Z (tO d c g) := ⟨fun b hb => ⟨hb, rfl, rfl, fun _ => ⟨fun _ => rfl, fun _ => rfl⟩, rfl, rfl⟩, fun _ _ h => h⟩
theorem Fx_self (a : Nat) (Z : mZ) (d : mD) : Fx a Z d Z d := ⟨fun b hb => ⟨hb, rfl, rfl, fun _ => ⟨fun _ => rfl, fun _ => rfl⟩, rfl, rfl⟩, fun _ _ h => h⟩
/-- a new picture, scene, sheet -/
def mkP (Z : mZ) (d : mD) (p : Nat) : Prop := ∃ A, pic Z p A ∧ gA d A = fun _ => 0
def mkS (Z : mZ) (d : mD) (s : Nat) : Prop := (∃ p q, ob Z 3 s ∧ rf Z 96 s = some p ∧ rf Z 97 s = some q ∧ mkP Z d p ∧ mkP Z d q) ∧ gI d 98 s = 0 ∧ gI d 99 s = 1
def mkH (Z : mZ) (d : mD) (h : Nat) : Prop := (∃ A, sht Z h A ∧ gJ d A = fun _ => 0) ∧ gI d 161 h = 0 ∧ gI d 162 h = 0 ∧ gI d 163 h = 0
theorem mkP_fx {a p : Nat} {Z Z' : mZ} {d d' : mD} (h : Fx a Z d Z' d') (hi : oI Z) (hp : mkP Z d p) : mkP Z' d' p := by
  obtain ⟨A, ⟨h1, h2, h3⟩, h4⟩ := hp
  exact ⟨A, ⟨Fx_ob h h1, Fx_rf h hi h2, Fx_ar h h3⟩, by rw [(h.1 A h3.1).2.2.2.2.1, h4]⟩
theorem mkS_fx {a s : Nat} {Z Z' : mZ} {d d' : mD} (h : Fx a Z d Z' d') (hi : oI Z) (hs : s ≠ a) (hp : mkS Z d s) : mkS Z' d' s := by
  obtain ⟨⟨p, q, h1, h2, h3, h4, h5⟩, h6, h7⟩ := hp
  exact ⟨⟨p, q, Fx_ob h h1, Fx_rf h hi h2, Fx_rf h hi h3, mkP_fx h hi h4, mkP_fx h hi h5⟩, by rw [((h.1 s h1.1).2.2.2.1 hs).2, h6], by rw [((h.1 s h1.1).2.2.2.1 hs).2, h7]⟩
theorem mkH_fx {a s : Nat} {Z Z' : mZ} {d d' : mD} (h : Fx a Z d Z' d') (hi : oI Z) (hs : s ≠ a) (hp : mkH Z d s) : mkH Z' d' s := by
  obtain ⟨⟨A, ⟨h1, h2, h3⟩, h4⟩, h5, h6, h7⟩ := hp
  have hg := fun f => ((h.1 s h1.1).2.2.2.1 hs).2 f
  exact ⟨⟨A, ⟨Fx_ob h h1, Fx_rf h hi h2, Fx_ar h h3⟩, by rw [(h.1 A h3.1).2.2.2.2.2, h4]⟩, by rw [hg, h5], by rw [hg, h6], by rw [hg, h7]⟩
/-- an array is made and named by a field of a -/
theorem S_arr {a f q ci : Nat} {Z : mZ} {d : mD} (k n : Nat) (hi : oI Z) (hn : nO Z a) (ho : ob Z ci a) (hf : rf Z f a = none) (hq : q ∉ Z.1) : Ex a Z d (zR (zN Z q k n) f a q) (dN d q) ∧ oI (zR (zN Z q k n) f a q) ∧ nO (zR (zN Z q k n) f a q) a ∧ ob (zR (zN Z q k n) f a q) ci a ∧ rf (zR (zN Z q k n) f a q) f a = some q ∧ ar (zR (zN Z q k n) f a q) k q n ∧ (gA (dN d q) q = (fun _ => 0) ∧ gJ (dN d q) q = (fun _ => 0) ∧ gO (dN d q) q = (fun _ => none)) ∧ (∀ g, g ≠ f → rf (zR (zN Z q k n) f a q) g a = rf Z g a) ∧ ∀ g, gI (dN d q) g a = gI d g a := by
  have hqa : a ≠ q := fun e => hq (e ▸ ho.1)
  refine ⟨⟨gW_ref (gW_new k n (gW_self Z d a) hq) hq, fun g x hx => ?_⟩, oI_ref (oI_new k n hi) (ob_new (k := k) (n := n) ho hq).1 (ar_born Z q k n).1 (nO_new k n (nO_fresh hi hq)), nO_ref (nO_new k n hn) hqa, (ob_new (k := k) (n := n) ho hq : ob (zN Z q k n) ci a), ?_, ar_born Z q k n, ⟨?_, ?_, ?_⟩, fun g hg => ?_, fun g => ?_⟩
  · rw [rf_zR]
    split
    · next e => rw [e.1, hf] at hx; cases hx
    · rw [rf_zN, if_neg hqa]; exact hx
  · rw [rf_zR, if_pos ⟨rfl, rfl⟩]
  · rw [gA_dN, if_pos rfl]
  · rw [gJ_dN, if_pos rfl]
  · rw [gO_dN, if_pos rfl]
  · rw [rf_zR, if_neg (fun e => hg e.1), rf_zN, if_neg hqa]
  · rw [gI_dN, if_neg hqa]
/-- an object q is made, its constructor called, and it is named by a field of a -/
theorem S_obj {a f q ci : Nat} {Z Z2 : mZ} {d d2 : mD} (k : Nat) (hi : oI Z) (hn : nO Z a) (ho : ob Z ci a) (hf : rf Z f a = none) (hq : q ∉ Z.1) (hg : gW (zN Z q k 0) (dN d q) q Z2 d2) (hi2 : oI Z2) (hn2 : nO Z2 q) : Ex a Z d (zR Z2 f a q) d2 ∧ oI (zR Z2 f a q) ∧ nO (zR Z2 f a q) a ∧ ob (zR Z2 f a q) ci a ∧ rf (zR Z2 f a q) f a = some q ∧ Fx a Z2 d2 (zR Z2 f a q) d2 ∧ (∀ g, g ≠ f → rf (zR Z2 f a q) g a = rf Z g a) ∧ ∀ g, gI d2 g a = gI d g a := by
  have hqa : a ≠ q := fun e => hq (e ▸ ho.1)
  have ha1 : a ∈ (zN Z q k 0).1 := (ob_new ho hq).1
  have hrf : ∀ g, rf Z2 g a = rf Z g a := fun g => by rw [((hg.1 a ha1).2.2.2.1 hqa).1 g, rf_zN, if_neg hqa]
  have hq2 : q ∈ Z2.1 := (hg.1 q (mem_zN.mpr (Or.inr rfl))).1
  have ha2 : a ∈ Z2.1 := (hg.1 a ha1).1
  have ho2 : ob Z2 ci a := gW_ob hg (ob_new ho hq)
  have hm : ∀ g x, rf Z g a = some x → rf (zR Z2 f a q) g a = some x := fun g x hx => by
    rw [rf_zR]
    split
    · next e => rw [e.1, hf] at hx; cases hx
    · rw [hrf]; exact hx
  refine ⟨⟨gW_ref (gW_call (gW_new k 0 (gW_self Z d a) hq) hq hg) hq, hm⟩, oI_ref hi2 ha2 hq2 hn2, nO_ref (nO_call (nO_new k 0 hn) ha1 hg) hqa, ho2, ?_, ⟨fun b hb => ?_, fun g x hx => ?_⟩, fun g h => ?_, fun g => ?_⟩
  · rw [rf_zR, if_pos ⟨rfl, rfl⟩]
  · exact ⟨hb, rfl, rfl, fun h => ⟨fun g => by rw [rf_zR, if_neg (fun e => h e.2)], fun _ => rfl⟩, rfl, rfl⟩
  · rw [hrf] at hx; exact hm g x hx
  · rw [rf_zR, if_neg (fun e => h e.1), hrf]
  · rw [((hg.1 a ha1).2.2.2.1 hqa).2 g, gI_dN, if_neg hqa]
