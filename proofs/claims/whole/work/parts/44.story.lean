def yI (Z0 : mZ) (d0 : mD) (a sc pa : Nat) (Z : mZ) (d : mD) (i : Nat) : Prop := Ex a Z0 d0 Z d ∧ oI Z ∧ nO Z a ∧ ob Z 6 a ∧ rf Z 192 a = some sc ∧ rf Z 193 a = some pa ∧ mkS Z d sc ∧ ar Z 12 pa 8 ∧ gI d 194 a = 0 ∧ pa ∉ Z0.1 ∧ (∀ j, j < i → ∃ s, gO d pa j = some s ∧ s ∉ Z0.1 ∧ mkS Z d s ∧ nO Z s) ∧ ∀ j k, j < i → k < i → j ≠ k → gO d pa j ≠ gO d pa k
theorem mkS_in {Z : mZ} {d : mD} {s : Nat} (h : mkS Z d s) : s ∈ Z.1 := by
  obtain ⟨⟨p, q, h1, _⟩, _⟩ := h
  exact h1.1
theorem va_up_eq {α : Type} (f : Nat → α) (i : Nat) (v : α) (j : Nat) : va_up f i v j = if j = i then v else f j := by
  by_cases h : j = i <;> simp [va_up, h]
theorem yI_step {Z0 Z W : mZ} {d0 d w : mD} {a sc pa i q : Nat} (h : yI Z0 d0 a sc pa Z d i) (hq : q ∉ Z.1) (hg : gW (zN Z q 3 0) (dN d q) q W w) (hi2 : oI W) (hn2 : nO W q) (hs : mkS W w q) : yI Z0 d0 a sc pa W (tO w pa (va_up (gO w pa) i (some q))) (i + 1) := by
  obtain ⟨h1, h2, h3, h4, h5, h6, h7, h8, h9, h10, h11, h12⟩ := h
  have hq0 : q ∉ Z0.1 := fun e => hq (h1.1.1 q e).1
  have F : Fx q Z d W w := Fx_tr (Fx_new q 3 0 hq h2) (Fx_gW hg (bar_new 3 0))
  have hin : ∀ b, b ∈ Z.1 → b ≠ q := fun b hb e => hq (e ▸ hb)
  have hmz : ∀ b, b ∈ Z.1 → b ∈ (zN Z q 3 0).1 := fun b hb => mem_zN.mpr (Or.inl hb)
  have hO : ∀ b, b ∈ Z.1 → gO w b = gO d b := fun b hb => by rw [(hg.1 b (hmz b hb)).2.2.2.2.2.2, gO_dN, if_neg (hin b hb)]
  have tS : ∀ s, mkS Z d s → mkS W (tO w pa (va_up (gO w pa) i (some q))) s := fun s hs9 => mkS_fx (Fx_tO (a := q)) hi2 (hin s (mkS_in hs9)) (mkS_fx F h2 (hin s (mkS_in hs9)) hs9)
  have hv : ∀ j, gO (tO w pa (va_up (gO w pa) i (some q))) pa j = if j = i then some q else gO d pa j := fun j => by rw [gO_tO, if_pos rfl, va_up_eq, hO pa h8.1]
  refine ⟨⟨gW_arO (gW_call (gW_new 3 0 h1.1 hq) hq0 hg) h10, fun f c hc => Fx_rf F h2 (h1.2 f c hc)⟩, hi2, nO_call (nO_new 3 0 h3) (hmz a h4.1) hg, gW_ob hg (ob_new h4 hq), Fx_rf F h2 h5, Fx_rf F h2 h6, tS sc h7, gW_ar hg (ar_new h8 hq), ?_, h10, fun j hj => ?_, fun j k hj hk hjk => ?_⟩
  · show gI w 194 a = 0
    rw [((hg.1 a (hmz a h4.1)).2.2.2.1 (hin a h4.1)).2, gI_dN, if_neg (hin a h4.1), h9]
  · rw [hv]
    by_cases hji : j = i
    · rw [if_pos hji]
      exact ⟨q, rfl, hq0, ⟨by obtain ⟨⟨p, r, k1, k2, k3, k4, k5⟩, _⟩ := hs; exact ⟨p, r, k1, k2, k3, mkP_fx (Fx_tO (a := a)) hi2 k4, mkP_fx (Fx_tO (a := a)) hi2 k5⟩, hs.2.1, hs.2.2⟩, hn2⟩
    · rw [if_neg hji]
      obtain ⟨s, k1, k2, k3, k4⟩ := h11 j (by omega)
      exact ⟨s, k1, k2, tS s k3, nO_call (nO_new 3 0 k4) (hmz s (mkS_in k3)) hg⟩
  · rw [hv, hv]
    by_cases h1j : j = i
    · rw [if_pos h1j, if_neg (fun e => hjk (h1j.trans e.symm))]
      obtain ⟨s, k1, k2, k3, k4⟩ := h11 k (by omega)
      rw [k1]
      exact fun e => hin s (mkS_in k3) (Option.some.inj e).symm
    · rw [if_neg h1j]
      by_cases h1k : k = i
      · rw [if_pos h1k]
        obtain ⟨s, k1, k2, k3, k4⟩ := h11 j (by omega)
        rw [k1]
        exact fun e => hin s (mkS_in k3) (Option.some.inj e)
      · rw [if_neg h1k]
        exact h12 j k (by omega) (by omega) hjk
theorem n_X6 {l : Launch} {G : mG} {Z : mZ} {d : mD} {a : Nat} (hi : oI Z) (hn : nO Z a) (ho : ob Z 6 a) (hb : bar Z a) (hz : ∀ f, gI d f a = 0) : CtN l G yX6_init cX6_init 2 3 52 46 1790 [.ref a] Z d (fun Z' d' => gW Z d a Z' d' ∧ oI Z' ∧ nO Z' a ∧ ∃ sc pa, yI Z d a sc pa Z' d' 8) := by
  refine enterN RX6 1 [some (.ref a), none] (by decide) rfl rfl rfl rfl (fun X hX hR => ?_)
  refine al0 (pc := 0) dX6_init_0 ?_
  refine g_obj (pc := 1) wm_X6_3 (by decide) (by decide) dX6_init_1 ?_
  refine al0 (pc := 4) dX6_init_4 ?_
  refine nw_X6_9 (pc := 5) (by decide) (by decide) dX6_init_5 (fun q1 hq1 => ?_)
  refine g_dupR (pc := 8) dX6_init_8 ?_
  refine callN (pc := 9) (n_X3 (oI_new 3 0 hi) (nO_new 3 0 (nO_fresh hi hq1)) (ob_born Z q1 3 0) (bar_new 3 0) (fun g9 => by rw [gI_dN, if_pos rfl])) wm_X6_11 yiX3_init (by decide) (by decide) (Nat.le_of_ble_eq_true rfl) dX6_init_9 (fun W1 w1 hp1 => ?_)
  obtain ⟨g1, j1, m1, t1⟩ := hp1
  refine pF_X6_12 (pc := 12) hX (gW_ob g1 (ob_new ho hq1)) dX6_init_12 ?_
  obtain ⟨e1, i1, n1, o1, f1, x1, r1, u1⟩ := S_obj (f := 192) 3 hi hn ho (hb 192) hq1 g1 j1 m1
  generalize zR W1 192 a q1 = Z1 at *
  refine al0 (pc := 15) dX6_init_15 ?_
  refine g_bipush (pc := 16) dX6_init_16 kb8 ?_
  refine g_newS (pc := 18) 8 wc_X6_9 rfl (by decide) (by decide) (by decide) dX6_init_18 (fun q2 hq2 => ?_)
  refine pF_X6_18 (pc := 21) hX (ob_new o1 hq2) dX6_init_21 ?_
  obtain ⟨e2, i2, n2, o2, f2, a2, v2, r2, u2⟩ := S_arr (d := w1) (f := 193) 12 8 i1 n1 o1 ((r1 193 (by decide)).trans (hb 193)) hq2
  generalize zR (zN Z1 q2 12 8) 193 a q2 = Z2 at *
  generalize dN w1 q2 = d2 at *
  refine al0 (pc := 24) dX6_init_24 ?_
  refine g_iconst (pc := 25) dX6_init_25 kc0 ?_
  refine pf_X6_22 (pc := 26) o2 dX6_init_26 ?_
  have e3 := Ex_int (a := a) (Z := Z2) (d := d2) 194 0
  have v3 : ∀ g, gI (sI d2 194 a 0) g a = if g = 194 then 0 else gI d2 g a := fun g => by rw [gI_sI]; by_cases h9 : g = 194 <;> simp [h9]
  generalize sI d2 194 a 0 = d3 at *
  have F3 := Fx_self a Z2 d3
  have F2 := Fx_tr (Ex_fx e3) F3
  have F1 := Fx_tr (Ex_fx e2) F2
  have E9 := (Ex_tr (Ex_tr e1 e2) e3)
  refine g_iconst (pc := 29) dX6_init_29 kc0 ?_
  refine is1 (pc := 30) dX6_init_30 rfl ?_
  have L31 : ∀ (n i : Nat) (Zi : mZ) (di : mD), i + n = 8 → yI Z d a q1 q2 Zi di i → mGo l G (mRn 3 52 46 1790) X RX6 cX6_init 2 (6 + 5 * i) (206 + 198 * i) Zi 31 [some (.ref a), some (.int (nI i))] [] di := by
    intro n; induction n with
    | zero =>
      intro i Zi di hin hI
      obtain rfl : i = 8 := by omega
      refine il1 (pc := 31) dX6_init_31 ?_
      refine g_bipush (pc := 32) dX6_init_32 kb8 ?_
      refine g_icmpge 56 (pc := 34) dX6_init_34 (by decide) (fun c34 => ?_) (fun c34 => absurd (nI_le (a := 8) (by omega) (by omega)) c34)
      exact hR 56 _ _ _ _ _ ⟨hI.1.1, hI.2.1, hI.2.2.1, q1, q2, hI⟩ (by decide) (by decide) dX6_init_56
    | succ n ih =>
      intro i Zi di hin hI
      refine il1 (pc := 31) dX6_init_31 ?_
      refine g_bipush (pc := 32) dX6_init_32 kb8 ?_
      refine g_icmpge 56 (pc := 34) dX6_init_34 (by decide) (fun c34 => absurd c34 (nI_ge (b := 8) (by omega) (by omega))) (fun c34 => ?_)
      refine al0 (pc := 37) dX6_init_37 ?_
      refine gf_X6_18 (pc := 38) hI.2.2.2.1 hI.2.2.2.2.2.1 dX6_init_38 ?_
      refine il1 (pc := 41) dX6_init_41 ?_
      refine nw_X6_9 (pc := 42) (show 6 + 5 * i + 1 ≤ 46 by omega) (show 206 + 198 * i + 4 ≤ 1790 by omega) dX6_init_42 (fun q hq => ?_)
      refine g_dupR (pc := 45) dX6_init_45 ?_
      refine callN (pc := 46) (n_X3 (oI_new 3 0 hI.2.1) (nO_new 3 0 (nO_fresh hI.2.1 hq)) (ob_born Zi q 3 0) (bar_new 3 0) (fun g9 => by rw [gI_dN, if_pos rfl])) wm_X6_11 yiX3_init (by decide) ⟨show 6 + 5 * i + 1 + 4 ≤ 46 by omega, show 206 + 198 * i + 4 + 194 ≤ 1790 by omega⟩ (Nat.le_of_ble_eq_true rfl) dX6_init_46 (fun W w hp => ?_)
      obtain ⟨g9, j9, m9, t9⟩ := hp
      have hs9 := t9
      obtain ⟨⟨p9, r9, ho9, _⟩, _⟩ := hs9
      refine g_astS (pc := 49) i (gW_ar g9 (ar_new hI.2.2.2.2.2.2.2.1 hq)) (by omega) rfl (by decide) ho9 dX6_init_49 ?_
      refine ic1 (pc := 50) dX6_init_50 kc1 rfl ?_
      refine g_goto 31 (pc := 53) dX6_init_53 (by decide) ?_
      rw [nI_1]
      have q9 := ih (i + 1) W _ (by omega) (yI_step hI hq g9 j9 m9 t9)
      rw [show 6 + 5 * (i + 1) = 6 + 5 * i + 1 + 4 by omega, show 206 + 198 * (i + 1) = 206 + 198 * i + 4 + 194 by omega] at q9
      exact q9
  have hq20 : q2 ∉ Z.1 := fun h9 => hq2 (e1.1.1 q2 h9).1
  exact L31 8 0 Z2 d3 rfl ⟨E9, i2, n2, o2, Fx_rf F1 i1 f1, Fx_rf F2 i2 f2, mkS_fx F1 i1 (fun h9 => hq1 (h9 ▸ ho.1)) (mkS_fx x1 j1 (fun h9 => hq1 (h9 ▸ ho.1)) t1), Fx_ar F2 a2, by simp only [u1, u2, v3, hz]; rfl, hq20, fun j hj => absurd hj (by omega), fun j k hj => absurd hj (by omega)⟩
