theorem nw_of {w : Cond} {args : Array Value} {s : State} (h : w ∈ NW) (hb : w.before args s = true) : va_Nw w s := by
  have h2 := (List.mem_filter.mp h).2
  match w, h2, hb with
  | .fieldLinkNest a i b n d h, _, hb => exact va_Nw.of rfl hb
  | .methodLinkNest a i x h, _, hb => exact va_Nw.of rfl hb
  | .arrayOver (.object C), _, hb => exact va_AO.of hb
/-! the law's start -/
abbrev lwO : Term := .static "MovedBlocks" "ORDER" "[I"
theorem lw_ord {args : Array Value} {s : State} (h : (Jvm.Cond.and given_1 narrow_1).before args s = true) : ∀ j, j < 49 → (Term.elem lwO (.int (Int32.ofNat j))).eval args s none [] s = some (.int (ordF j)) := by
  intro j hj
  have hs := flat_of_before _ h
  match j, hj with
  | 0, _ => exact va_eqt (z := 24) (hs (.eq (.elem lwO (.int 0)) (.int 24)) (by decide +kernel))
  | 1, _ => exact va_eqt (z := 17) (hs (.eq (.elem lwO (.int 1)) (.int 17)) (by decide +kernel))
  | 2, _ => exact va_eqt (z := 23) (hs (.eq (.elem lwO (.int 2)) (.int 23)) (by decide +kernel))
  | 3, _ => exact va_eqt (z := 25) (hs (.eq (.elem lwO (.int 3)) (.int 25)) (by decide +kernel))
  | 4, _ => exact va_eqt (z := 31) (hs (.eq (.elem lwO (.int 4)) (.int 31)) (by decide +kernel))
  | 5, _ => exact va_eqt (z := 10) (hs (.eq (.elem lwO (.int 5)) (.int 10)) (by decide +kernel))
  | 6, _ => exact va_eqt (z := 16) (hs (.eq (.elem lwO (.int 6)) (.int 16)) (by decide +kernel))
  | 7, _ => exact va_eqt (z := 18) (hs (.eq (.elem lwO (.int 7)) (.int 18)) (by decide +kernel))
  | 8, _ => exact va_eqt (z := 22) (hs (.eq (.elem lwO (.int 8)) (.int 22)) (by decide +kernel))
  | 9, _ => exact va_eqt (z := 26) (hs (.eq (.elem lwO (.int 9)) (.int 26)) (by decide +kernel))
  | 10, _ => exact va_eqt (z := 30) (hs (.eq (.elem lwO (.int 10)) (.int 30)) (by decide +kernel))
  | 11, _ => exact va_eqt (z := 32) (hs (.eq (.elem lwO (.int 11)) (.int 32)) (by decide +kernel))
  | 12, _ => exact va_eqt (z := 38) (hs (.eq (.elem lwO (.int 12)) (.int 38)) (by decide +kernel))
  | 13, _ => exact va_eqt (z := 3) (hs (.eq (.elem lwO (.int 13)) (.int 3)) (by decide +kernel))
  | 14, _ => exact va_eqt (z := 9) (hs (.eq (.elem lwO (.int 14)) (.int 9)) (by decide +kernel))
  | 15, _ => exact va_eqt (z := 11) (hs (.eq (.elem lwO (.int 15)) (.int 11)) (by decide +kernel))
  | 16, _ => exact va_eqt (z := 15) (hs (.eq (.elem lwO (.int 16)) (.int 15)) (by decide +kernel))
  | 17, _ => exact va_eqt (z := 19) (hs (.eq (.elem lwO (.int 17)) (.int 19)) (by decide +kernel))
  | 18, _ => exact va_eqt (z := 21) (hs (.eq (.elem lwO (.int 18)) (.int 21)) (by decide +kernel))
  | 19, _ => exact va_eqt (z := 27) (hs (.eq (.elem lwO (.int 19)) (.int 27)) (by decide +kernel))
  | 20, _ => exact va_eqt (z := 29) (hs (.eq (.elem lwO (.int 20)) (.int 29)) (by decide +kernel))
  | 21, _ => exact va_eqt (z := 33) (hs (.eq (.elem lwO (.int 21)) (.int 33)) (by decide +kernel))
  | 22, _ => exact va_eqt (z := 37) (hs (.eq (.elem lwO (.int 22)) (.int 37)) (by decide +kernel))
  | 23, _ => exact va_eqt (z := 39) (hs (.eq (.elem lwO (.int 23)) (.int 39)) (by decide +kernel))
  | 24, _ => exact va_eqt (z := 45) (hs (.eq (.elem lwO (.int 24)) (.int 45)) (by decide +kernel))
  | 25, _ => exact va_eqt (z := 2) (hs (.eq (.elem lwO (.int 25)) (.int 2)) (by decide +kernel))
  | 26, _ => exact va_eqt (z := 4) (hs (.eq (.elem lwO (.int 26)) (.int 4)) (by decide +kernel))
  | 27, _ => exact va_eqt (z := 8) (hs (.eq (.elem lwO (.int 27)) (.int 8)) (by decide +kernel))
  | 28, _ => exact va_eqt (z := 12) (hs (.eq (.elem lwO (.int 28)) (.int 12)) (by decide +kernel))
  | 29, _ => exact va_eqt (z := 14) (hs (.eq (.elem lwO (.int 29)) (.int 14)) (by decide +kernel))
  | 30, _ => exact va_eqt (z := 20) (hs (.eq (.elem lwO (.int 30)) (.int 20)) (by decide +kernel))
  | 31, _ => exact va_eqt (z := 28) (hs (.eq (.elem lwO (.int 31)) (.int 28)) (by decide +kernel))
  | 32, _ => exact va_eqt (z := 34) (hs (.eq (.elem lwO (.int 32)) (.int 34)) (by decide +kernel))
  | 33, _ => exact va_eqt (z := 36) (hs (.eq (.elem lwO (.int 33)) (.int 36)) (by decide +kernel))
  | 34, _ => exact va_eqt (z := 40) (hs (.eq (.elem lwO (.int 34)) (.int 40)) (by decide +kernel))
  | 35, _ => exact va_eqt (z := 44) (hs (.eq (.elem lwO (.int 35)) (.int 44)) (by decide +kernel))
  | 36, _ => exact va_eqt (z := 46) (hs (.eq (.elem lwO (.int 36)) (.int 46)) (by decide +kernel))
  | 37, _ => exact va_eqt (z := 1) (hs (.eq (.elem lwO (.int 37)) (.int 1)) (by decide +kernel))
  | 38, _ => exact va_eqt (z := 5) (hs (.eq (.elem lwO (.int 38)) (.int 5)) (by decide +kernel))
  | 39, _ => exact va_eqt (z := 7) (hs (.eq (.elem lwO (.int 39)) (.int 7)) (by decide +kernel))
  | 40, _ => exact va_eqt (z := 13) (hs (.eq (.elem lwO (.int 40)) (.int 13)) (by decide +kernel))
  | 41, _ => exact va_eqt (z := 35) (hs (.eq (.elem lwO (.int 41)) (.int 35)) (by decide +kernel))
  | 42, _ => exact va_eqt (z := 41) (hs (.eq (.elem lwO (.int 42)) (.int 41)) (by decide +kernel))
  | 43, _ => exact va_eqt (z := 43) (hs (.eq (.elem lwO (.int 43)) (.int 43)) (by decide +kernel))
  | 44, _ => exact va_eqt (z := 47) (hs (.eq (.elem lwO (.int 44)) (.int 47)) (by decide +kernel))
  | 45, _ => exact va_eqt (z := 0) (hs (.eq (.elem lwO (.int 45)) (.int 0)) (by decide +kernel))
  | 46, _ => exact va_eqt (z := 6) (hs (.eq (.elem lwO (.int 46)) (.int 6)) (by decide +kernel))
  | 47, _ => exact va_eqt (z := 42) (hs (.eq (.elem lwO (.int 47)) (.int 42)) (by decide +kernel))
  | 48, _ => exact va_eqt (z := 48) (hs (.eq (.elem lwO (.int 48)) (.int 48)) (by decide +kernel))
  | j + 49, h9 => exact absurd h9 (by omega)
theorem lw_lay : Cond.laysStatic "MovedBlocks" "ORDER" "[I" ∈ lw_tbl := List.mem_of_getElem? (i := 347) (by decide +kernel)
/-- the classes, the array classes and the order of moves, as the start has them -/
theorem lw_G {args : Array Value} {s : State} (hts : ∀ w ∈ lw_tbl, w.before args s = true) (hgv : (Jvm.Cond.and given_1 narrow_1).before args s = true) : ∃ G : mG, va_K G.1 vwCl (mT G) s ∧ mOT G.2.2.2.2.2 (fun q => s.heap.size ≤ q) s s.heap ∧ mNs s := by
  have hA : ∀ w ∈ AW, w.before args s = true := fun w hw => hts w (List.mem_filter.mp hw).1
  have hs := flat_of_before _ hgv
  obtain ⟨c0, i0, k0⟩ := u_known hA inW0 (hA _ wn_X0)
  obtain ⟨c1, i1, k1⟩ := u_known hA inW1 (hA _ wn_X1)
  obtain ⟨c2, i2, k2⟩ := u_known hA inW2 (hA _ wn_X2)
  obtain ⟨c3, i3, k3⟩ := u_known hA inW3 (hA _ wn_X3)
  obtain ⟨c4, i4, k4⟩ := u_known hA inW4 (hA _ wn_X4)
  obtain ⟨c5, i5, k5⟩ := u_known hA inW5 (hA _ wn_X5)
  obtain ⟨c6, i6, k6⟩ := u_known hA inW6 (hA _ wn_X6)
  obtain ⟨c7, i7, k7⟩ := u_known hA inW7 (hA _ wn_X7)
  obtain ⟨c8, i8, k8⟩ := u_known hA inW8 (hA _ wn_X8)
  obtain ⟨c9, i9, k9⟩ := u_known hA inW9 (hA _ wn_X9)
  obtain ⟨cI, kI, pI, a1, a2, a3⟩ := Cond.arrayClass_spec (hA _ wa_int)
  obtain ⟨cJ, kJ, pJ, b1, b2, b3⟩ := Cond.arrayClass_spec (hA _ wa_long)
  obtain ⟨pS, cS, kS, e1, _, e2, e3, e4⟩ := Cond.arrayOver_spec (hts _ (List.mem_filter.mp wo_X3).1)
  obtain ⟨pT, cT, kT, f1, _, f2, f3, f4⟩ := Cond.arrayOver_spec (hts _ (List.mem_filter.mp wo_X5).1)
  obtain ⟨t, ht, hT⟩ := va_Tof (tm := lwO) (ty := .int) (N := 49) (f := fun j => .int (ordF j)) (A := fun q => s.heap.size ≤ q) (by decide) (hs (.arrayOf lwO .int) (by decide +kernel)) (va_eqt (z := 49) (hs (.eq (.length lwO) (.int 49)) (by decide +kernel))) (lw_ord hgv) (fun a h1 h2 => absurd h1 (Nat.not_lt.mpr h2))
  refine ⟨((fun c => [c0, c1, c2, c3, c4, c5, c6, c7, c8, c9].getD c c0, fun c => [i0, i1, i2, i3, i4, i5, i6, i7, i8, i9].getD c i0), cI, cJ, cS, cT, t), ⟨fun c q hq => ?_, fun k q hk => ?_⟩, ⟨va_Zof (hts _ lw_lay) (hA _ wi_X8) ht (fun a h1 h2 => absurd h1 (Nat.not_lt.mpr h2)), hT⟩, fun w hw => nw_of hw (hts w (List.mem_filter.mp hw).1)⟩
  · match c, hq with
    | 0, hq => cases hq; exact k0
    | 1, hq => cases hq; exact k1
    | 2, hq => cases hq; exact k2
    | 3, hq => cases hq; exact k3
    | 4, hq => cases hq; exact k4
    | 5, hq => cases hq; exact k5
    | 6, hq => cases hq; exact k6
    | 7, hq => cases hq; exact k7
    | 8, hq => cases hq; exact k8
    | 9, hq => cases hq; exact k9
    | c + 10, hq => simp at hq
  · match k, hk with
    | 0, hk => cases hk; exact ⟨fun n z => ⟨fun k h => (by cases h), kI, a2, pI, a3⟩, a1⟩
    | 1, hk => cases hk; exact ⟨fun n z => ⟨fun k h => (by cases h), kJ, b2, pJ, b3⟩, b1⟩
    | 2, hk => cases hk; exact ⟨fun n z => ⟨fun k h => (by cases h), kS, e2, pS, e3⟩, kS, pS, e2, e3, e1, e4⟩
    | 3, hk => cases hk; exact ⟨fun n z => ⟨fun k h => (by cases h), kT, f2, pT, f3⟩, kT, pT, f2, f3, f1, f4⟩
    | k + 4, hk => simp at hk
