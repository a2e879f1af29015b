section
variable {l : Launch} {G : mG} {R : Room} {X : mF} {cc : ByteArray} {nL kc ns : Nat} {Z : mZ} {pc : Nat} {lv : List (Option Value)} {rest : List Value} {d : mD}
theorem nw_L_7 (hce : kc + 1 ≤ R.cells) (hsl : ns + 9 ≤ R.slots) (hd : decode cc pc = .ok (.new 7, 3)) (kk : ∀ q, q ∉ Z.1 → mGo l G R X RL cc nL (kc + 1) (ns + 9) (zN Z q 8 0) (pc + 3) lv (.ref q :: rest) (dN d q)) : mGo l G R X RL cc nL kc ns Z pc lv rest d := g_newO (ci := 8) (fs := [.null, .null, .int 0, .null, .null, .null, .null, .null, .null]) inW8 tyX8_ok rfl wc_L_7 wn_X8 wi_X8 (fun j hj => match j, hj with | 0, _ => rfl | 1, _ => rfl | 2, _ => rfl | 3, _ => rfl | 4, _ => rfl | 5, _ => rfl | 6, _ => rfl | 7, _ => rfl | 8, _ => rfl) (fun q => by simp [wE, mK_zN, rf_zN, gI_dN, va_rf]) hce hsl hd kk
theorem nw_L_10 (hce : kc + 1 ≤ R.cells) (hsl : ns + 19 ≤ R.slots) (hd : decode cc pc = .ok (.new 10, 3)) (kk : ∀ q, q ∉ Z.1 → mGo l G R X RL cc nL (kc + 1) (ns + 19) (zN Z q 9 0) (pc + 3) lv (.ref q :: rest) (dN d q)) : mGo l G R X RL cc nL kc ns Z pc lv rest d := g_newO (ci := 9) (fs := [.null, .null, .int 0, .int 0, .int 0, .null, .null, .int 0, .int 0, .null, .null, .int 0, .null, .null, .int 0, .null, .null, .null, .null]) inW9 tyX9_ok rfl wc_L_10 wn_X9 wi_X9 (fun j hj => match j, hj with | 0, _ => rfl | 1, _ => rfl | 2, _ => rfl | 3, _ => rfl | 4, _ => rfl | 5, _ => rfl | 6, _ => rfl | 7, _ => rfl | 8, _ => rfl | 9, _ => rfl | 10, _ => rfl | 11, _ => rfl | 12, _ => rfl | 13, _ => rfl | 14, _ => rfl | 15, _ => rfl | 16, _ => rfl | 17, _ => rfl | 18, _ => rfl | j + 19, h9 => absurd h9 (by omega)) (fun q => by simp [wE, mK_zN, rf_zN, gI_dN, va_rf]) hce hsl hd kk
end
/-- the law's body, from its first instruction -/
theorem lw_body {l : Launch} {G : mG} {X : mF} {b L : Nat} {xs : Nat → Int32} (hX : va_X b L xs X.2.2.1 X.2.2.1.heap) (hbl : b < X.2.2.1.heap.size) (hbA : ¬ X.2.2.2.2.2.2.2.2.1 b) (hL : L ≤ 3072) (hE : ∀ (c9 n9 : Nat) (Z : mZ) (d : mD) (lv : List (Option Value)), c9 ≤ 600000 → n9 ≤ 7302250 → mGo l G room_1 X RL cL_law 4 c9 n9 Z 906 lv [.int 1] d) : mGo l G room_1 X RL cL_law 4 0 0 zE 0 [some (.ref b), none, none, none] [] dE := by
  refine nw_L_7 (Nat.le_of_ble_eq_true rfl) (Nat.le_of_ble_eq_true rfl) dL_law_0 (fun x hxE => ?_)
  refine g_dupR dL_law_3 ?_
  refine callN1 (n_X8 (oI_new 8 0 oI_E) (nO_new 8 0 (nO_E x)) (ob_born zE x 8 0) (bar_new 8 0) (gI_born dE x)) wm_L_9 yiX8_init ⟨Nat.le_of_ble_eq_true rfl, Nat.le_of_ble_eq_true rfl⟩ ⟨Nat.le_of_ble_eq_true rfl, Nat.le_of_ble_eq_true rfl⟩ (Nat.le_of_ble_eq_true rfl) dL_law_4 (fun Z1 d1 h1 => ?_)
  obtain ⟨_, hI1, _, st, kp, tp, sr, ha, fi, sp, sh, sc, pa, kc, kq, le, dt, mo, ne, hx0⟩ := h1
  refine as1 dL_law_7 rfl ?_
  refine nw_L_10 (Nat.le_of_ble_eq_true rfl) (Nat.le_of_ble_eq_true rfl) dL_law_8 (fun m hm1 => ?_)
  refine mGo_cg (mP_2 9 hm1) ?_
  have hdis : ∀ a, a ∈ Z1.1 → a ∉ (zN zE m 9 0).1 := fun a h1 h2 => by
    rcases mem_zN.mp h2 with h | h
    · cases h
    · exact hm1 (h ▸ h1)
  refine g_dupR dL_law_11 ?_
  refine callN2 hdis (n_X9 (oI_new 9 0 oI_E) (nO_new 9 0 (nO_E m)) (ob_born zE m 9 0) (bar_new 9 0) (gI_born dE m)) wm_L_12 yiX9_init ⟨Nat.le_of_ble_eq_true rfl, Nat.le_of_ble_eq_true rfl⟩ ⟨Nat.le_of_ble_eq_true rfl, Nat.le_of_ble_eq_true rfl⟩ (Nat.le_of_ble_eq_true rfl) dL_law_12 (fun Z2 d2 hdis2 h2 => ?_)
  obtain ⟨_, _, _, nw, od, fd, tr, rd, ah, kr, ka, ln, sz, it, mv, hm0⟩ := h2
  refine as2 dL_law_15 rfl ?_
  refine g_iconst (v := nI 0) dL_law_16 (by decide) ?_
  refine is3 dL_law_17 rfl ?_
  exact lw_loop hx0.1 hI1 hm0.1 hdis2 hX hbl hbA hL ⟨Nat.le_of_ble_eq_true rfl, Nat.le_of_ble_eq_true rfl⟩ (fun u1 u2 lv => hE _ _ _ _ lv (Nat.le_of_ble_eq_true rfl) (Nat.le_of_ble_eq_true rfl)) L 0 d1 d2 (Nat.zero_le L) (by omega) (CR_0 hx0 hm0)
theorem whole_start {p : Program} {e : Env} {s : State} {m : MethodId} {below : List Frame} {meth : Method} {c : Code} (l : Launch) (hflags : l.flags = flags0) {b L : Nat} {xs : Nat → Int32} (hL : L ≤ 3072) (C0 : lw_At p s m meth c b L xs) : W p l e room_1 s m #[Value.ref b] below meth c s.heap [] 0 0 (lw_Z below #[Value.ref b] s) (entryFrame m ([Value.ref b] : List Value).toArray 4) := by
  obtain ⟨hx, hb, hr, hml, hown, hts, hX, hbl, hlocks, hgv⟩ := C0
  obtain ⟨G, hK, hO, hN⟩ := lw_G hts hgv
  have C9 : mCx G (p, e, s, m, #[Value.ref b], below, meth, c, (fun q => s.heap.size ≤ q), lw_Z below #[Value.ref b] s) RL cL_law 4 := ⟨hx, hb, hml, hown, fun w hw => hts w (List.mem_filter.mp hw).1, hN, hK, hO, fun q hq => hq⟩
  have hl := lv_entry [Value.ref b] (n := 4) (Nat.le_of_ble_eq_true rfl)
  rw [lg_entry_eq]
  refine lw_body (G := G) (X := (p, e, s, m, #[Value.ref b], below, meth, c, (fun q => s.heap.size ≤ q), lw_Z below #[Value.ref b] s)) hX hbl (Nat.not_le.mpr hbl) hL ?_ C9 s.heap [] _ ⟨mP_P.mpr (fun a ha => by cases ha), mP_D.mpr ⟨fun i j a hi => by simp [zE] at hi, fun a ha => by cases ha⟩, va_S.rf⟩ (mLv_ini (av := [Value.ref b]) (nL := 4) (nr := 3) (lv := [some (.ref b), none, none, none]) rfl rfl hl)
  intro c9 n9 Z d lv hc hn C H locs ls hW hL9
  refine va_forget (fun q hq => hW.2.2.2.2 q hq) ?_
  refine W.widen (k := 600000) (n := 7302250) hc hn ?_
  exact lw_ret hx hb hr hlocks dL_law_906
