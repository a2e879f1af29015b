theorem lt6 {L i : Nat} (hL : L ≤ 3072) (hi : i ≤ L) (h : ¬ (nI L - 6 < nI i)) : i + 6 ≤ L := by
  have e6 : (6 : Int32).toInt = 6 := by decide
  rw [ma_lt, i_sub (by rw [e6, nI_toInt (by omega)]; omega) (by rw [e6, nI_toInt (by omega)]; omega), e6, nI_toInt (by omega), nI_toInt (by omega)] at h
  omega
section
variable {l : Launch} {G : mG} {X : mF} {c9 n9 b L : Nat} {xs : Nat → Int32} {Z1 Z2 : mZ} {x st kp tp sr ha fi sp sh sc pa kc kq le dt mo ne m nw od fd tr rd ah kr ka ln sz it mv : Nat}
theorem lw_switch {i : Nat} {d1 d2 : mD} (hx : clS Z1 x st kp tp sr ha fi sp sh sc pa kc kq le dt mo ne) (hI : oI Z1) (hm : mdS Z2 m nw od fd tr rd ah kr ka ln sz it mv) (hdis : ∀ a, a ∈ Z1.1 → a ∉ Z2.1) (hX : va_X b L xs X.2.2.1 X.2.2.1.heap) (hbl : b < X.2.2.1.heap.size) (hbA : ¬ X.2.2.2.2.2.2.2.2.1 b) (hL : L < 2 ^ 31) (hi : i + 6 ≤ L) (hce : c9 + 0 ≤ room_1.cells ∧ n9 + 0 ≤ room_1.slots) (hr : CR Z1 d1 d2 x st kp tp sh sc pa kc kq le m nw od tr ah kr ka ln sz it) (kk : ∀ u1 u2, CR Z1 u1 u2 x st kp tp sh sc pa kc kq le m nw od tr ah kr ka ln sz it → mGo l G room_1 X RL cL_law 4 c9 n9 (zJ Z1 Z2) 899 [some (.ref b), some (.ref x), some (.ref m), some (.int (nI i))] [] (dJ Z1 u1 u2)) {v : Int32} {j : Nat} (hj : j < 32) (hv : v = nI j) : mGo l G room_1 X RL cL_law 4 c9 n9 (zJ Z1 Z2) 33 [some (.ref b), some (.ref x), some (.ref m), some (.int (nI i))] [.int v] (dJ Z1 d1 d2) := by
  subst hv
  match j, hj with
  | 0, _ => exact g_tblIn 140 dL_law_33 (by decide) (by decide) (off := 107) (by decide) (by decide) (lw_type hx hI hm hdis hX hbl hbA hL hi hce hr kk)
  | 1, _ => exact g_tblIn 163 dL_law_33 (by decide) (by decide) (off := 130) (by decide) (by decide) (lw_picture hx hI hm hdis hX hbl hbA hL hi hce hr kk)
  | 2, _ => exact g_tblIn 176 dL_law_33 (by decide) (by decide) (off := 143) (by decide) (by decide) (lw_dot hx hI hm hdis hX hbl hbA hL hi hce hr kk)
  | 3, _ => exact g_tblIn 219 dL_law_33 (by decide) (by decide) (off := 186) (by decide) (by decide) (lw_count hx hI hm hdis hX hbl hbA hL hi hce hr kk)
  | 4, _ => exact g_tblIn 242 dL_law_33 (by decide) (by decide) (off := 209) (by decide) (by decide) (lw_paint hx hI hm hdis hX hbl hbA hL hi hce hr kk)
  | 5, _ => exact g_tblIn 285 dL_law_33 (by decide) (by decide) (off := 252) (by decide) (by decide) (lw_shift hx hI hm hdis hX hbl hbA hL hi hce hr kk)
  | 6, _ => exact g_tblIn 318 dL_law_33 (by decide) (by decide) (off := 285) (by decide) (by decide) (lw_take hx hI hm hdis hX hbl hbA hL hi hce hr kk)
  | 7, _ => exact g_tblIn 331 dL_law_33 (by decide) (by decide) (off := 298) (by decide) (by decide) (lw_like hx hI hm hdis hX hbl hbA hL hi hce hr kk)
  | 8, _ => exact g_tblIn 354 dL_law_33 (by decide) (by decide) (off := 321) (by decide) (by decide) (lw_noise hx hI hm hdis hX hbl hbA hL hi hce hr kk)
  | 9, _ => exact g_tblIn 377 dL_law_33 (by decide) (by decide) (off := 344) (by decide) (by decide) (lw_undo hx hI hm hdis hX hbl hbA hL hi hce hr kk)
  | 10, _ => exact g_tblIn 390 dL_law_33 (by decide) (by decide) (off := 357) (by decide) (by decide) (lw_seed hx hI hm hdis hX hbl hbA hL hi hce hr kk)
  | 11, _ => exact g_tblIn 413 dL_law_33 (by decide) (by decide) (off := 380) (by decide) (by decide) (lw_cost hx hI hm hdis hX hbl hbA hL hi hce hr kk)
  | 12, _ => exact g_tblIn 446 dL_law_33 (by decide) (by decide) (off := 413) (by decide) (by decide) (lw_of hx hI hm hdis hX hbl hbA hL hi hce hr kk)
  | 13, _ => exact g_tblIn 479 dL_law_33 (by decide) (by decide) (off := 446) (by decide) (by decide) (lw_rebuilt hx hI hm hdis hX hbl hbA hL hi hce hr kk)
  | 14, _ => exact g_tblIn 512 dL_law_33 (by decide) (by decide) (off := 479) (by decide) (by decide) (lw_wrong hx hI hm hdis hX hbl hbA hL hi hce hr kk)
  | 15, _ => exact g_tblIn 555 dL_law_33 (by decide) (by decide) (off := 522) (by decide) (by decide) (lw_image hx hI hm hdis hX hbl hbA hL hi hce hr kk)
  | 16, _ => exact g_tblIn 568 dL_law_33 (by decide) (by decide) (off := 535) (by decide) (by decide) (lw_restore hx hI hm hdis hX hbl hbA hL hi hce hr kk)
  | 17, _ => exact g_tblIn 581 dL_law_33 (by decide) (by decide) (off := 548) (by decide) (by decide) (lw_found hx hI hm hdis hX hbl hbA hL hi hce hr kk)
  | 18, _ => exact g_tblIn 634 dL_law_33 (by decide) (by decide) (off := 601) (by decide) (by decide) (lw_film hx hI hm hdis hX hbl hbA hL hi hce hr kk)
  | 19, _ => exact g_tblIn 687 dL_law_33 (by decide) (by decide) (off := 654) (by decide) (by decide) (lw_sheet hx hI hm hdis hX hbl hbA hL hi hce hr kk)
  | 20, _ => exact g_tblIn 730 dL_law_33 (by decide) (by decide) (off := 697) (by decide) (by decide) (lw_drop hx hI hm hdis hX hbl hbA hL hi hce hr kk)
  | 21, _ => exact g_tblIn 753 dL_law_33 (by decide) (by decide) (off := 720) (by decide) (by decide) (lw_item hx hI hm hdis hX hbl hbA hL hi hce hr kk)
  | 22, _ => exact g_tblIn 836 dL_law_33 (by decide) (by decide) (off := 803) (by decide) (by decide) (lw_copy hx hI hm hdis hX hbl hbA hL hi hce hr kk)
  | 23, _ => exact g_tblOut 899 dL_law_33 (Or.inr (by decide)) (by decide) (kk _ _ hr)
  | 24, _ => exact g_tblOut 899 dL_law_33 (Or.inr (by decide)) (by decide) (kk _ _ hr)
  | 25, _ => exact g_tblOut 899 dL_law_33 (Or.inr (by decide)) (by decide) (kk _ _ hr)
  | 26, _ => exact g_tblOut 899 dL_law_33 (Or.inr (by decide)) (by decide) (kk _ _ hr)
  | 27, _ => exact g_tblOut 899 dL_law_33 (Or.inr (by decide)) (by decide) (kk _ _ hr)
  | 28, _ => exact g_tblOut 899 dL_law_33 (Or.inr (by decide)) (by decide) (kk _ _ hr)
  | 29, _ => exact g_tblOut 899 dL_law_33 (Or.inr (by decide)) (by decide) (kk _ _ hr)
  | 30, _ => exact g_tblOut 899 dL_law_33 (Or.inr (by decide)) (by decide) (kk _ _ hr)
  | 31, _ => exact g_tblOut 899 dL_law_33 (Or.inr (by decide)) (by decide) (kk _ _ hr)
  | j + 32, h => exact absurd h (by omega)
theorem lw_loop (hx : clS Z1 x st kp tp sr ha fi sp sh sc pa kc kq le dt mo ne) (hI : oI Z1) (hm : mdS Z2 m nw od fd tr rd ah kr ka ln sz it mv) (hdis : ∀ a, a ∈ Z1.1 → a ∉ Z2.1) (hX : va_X b L xs X.2.2.1 X.2.2.1.heap) (hbl : b < X.2.2.1.heap.size) (hbA : ¬ X.2.2.2.2.2.2.2.2.1 b) (hL : L ≤ 3072) (hce : c9 + 0 ≤ room_1.cells ∧ n9 + 0 ≤ room_1.slots) (hE : ∀ u1 u2 lv, mGo l G room_1 X RL cL_law 4 c9 n9 (zJ Z1 Z2) 906 lv [.int 1] (dJ Z1 u1 u2)) : ∀ (n i : Nat) (d1 d2 : mD), i ≤ L → L < i + 6 + 6 * n → CR Z1 d1 d2 x st kp tp sh sc pa kc kq le m nw od tr ah kr ka ln sz it → mGo l G room_1 X RL cL_law 4 c9 n9 (zJ Z1 Z2) 18 [some (.ref b), some (.ref x), some (.ref m), some (.int (nI i))] [] (dJ Z1 d1 d2) := by
  intro n
  induction n with
  | zero =>
    intro i d1 d2 hi hn hr
    refine il3 dL_law_18 ?_
    refine al0 dL_law_19 ?_
    refine g_sln hX hbl hbA dL_law_20 ?_
    refine g_bipush (v := 6) dL_law_21 (by decide) ?_
    refine g_isub dL_law_23 ?_
    refine g_icmpgt 905 dL_law_24 (by decide) (fun _ => ?_) (fun q => ?_)
    · refine g_iconst (v := 1) dL_law_905 (by decide) ?_
      exact hE _ _ _
    · exact absurd (lt6 hL hi q) (by omega)
  | succ n ih =>
    intro i d1 d2 hi hn hr
    refine il3 dL_law_18 ?_
    refine al0 dL_law_19 ?_
    refine g_sln hX hbl hbA dL_law_20 ?_
    refine g_bipush (v := 6) dL_law_21 (by decide) ?_
    refine g_isub dL_law_23 ?_
    refine g_icmpgt 905 dL_law_24 (by decide) (fun _ => ?_) (fun q => ?_)
    · refine g_iconst (v := 1) dL_law_905 (by decide) ?_
      exact hE _ _ _
    · have h6 := lt6 hL hi q
      refine al0 dL_law_27 ?_
      refine il3 dL_law_28 ?_
      refine g_sld i hX hbl hbA rfl (by omega) (by omega) dL_law_29 ?_
      refine g_bipush (v := 31) dL_law_30 (by decide) ?_
      refine g_iand dL_law_32 ?_
      obtain ⟨j, hj, e⟩ := pk_andE (xs i) (m := 31) 5 (by decide +kernel)
      refine lw_switch hx hI hm hdis hX hbl hbA (by omega) h6 hce hr (fun u1 u2 hu => ?_) hj e
      refine ic3 dL_law_899 (cq := 6) (by decide) rfl ?_
      rw [show nI i + 6 = nI (i + 6) from nI_add i 6]
      refine g_goto 18 dL_law_902 (by decide) ?_
      exact ih (i + 6) u1 u2 h6 (by omega) hu
end
