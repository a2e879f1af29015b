def wtN (c st : Nat) : Nat → Nat → Nat → Nat
  | 0, _, w => w
  | n + 1, k, w => wtN c st n (k + 1) (w * (if Nat.testBit st k then c else 10 - c))
theorem wtN_le {c : Nat} (hc : c ≤ 10) (st : Nat) : ∀ n k w, wtN c st n k w ≤ w * 10 ^ n
  | 0, _, w => by rw [wtN]; omega
  | n + 1, k, w => by
    rw [wtN]
    refine Nat.le_trans (wtN_le hc st n (k + 1) _) ?_
    rw [Nat.pow_succ, ← Nat.mul_assoc, Nat.mul_right_comm, Nat.mul_assoc, Nat.mul_assoc]
    refine Nat.mul_le_mul_left w ?_
    refine Nat.mul_le_mul_left _ ?_
    split <;> omega
def tog (h : Nat → Int32) (st k : Nat) : Int32 := if Nat.testBit st k then 9 - h k else h k
def wgF (f : Nat → Int32) (n st : Nat) : Nat → Int32 := cpF f (tog (fun k => f (96 + k)) st) 96 n
def wgB (o f : Nat → Int32) (n st : Nat) : Int32 := rbE o (wgF f n st 192) (wgF f n st) (fun k => wgF f n st (96 + k)) 0
def wgX (o f : Nat → Int32) (n c : Nat) (us : Int32) (st : Nat) : Nat := if 0 < wtN c st n 0 1 ∧ ¬ wgB o f n st = us then wtN c st n 0 1 else 0
def rwbL (c m : Nat) : Nat → Nat → Nat → Nat
  | 0, _, b => b
  | n + 1, st, b => rwbL c m n (st + 1) (b + wtN c st m 0 1)
def rwaL (o f : Nat → Int32) (c m : Nat) (us : Int32) : Nat → Nat → Nat → Nat
  | 0, _, a => a
  | n + 1, st, a => rwaL o f c m us n (st + 1) (a + wgX o f m c us st)
theorem rwb_eq : ∀ c, c < 11 → ∀ m, m < 7 → rwbL c m (2 ^ m) 0 0 = 10 ^ m := by decide +kernel
theorem rwa_le (o f : Nat → Int32) (c m : Nat) (us : Int32) : ∀ n st a b, a ≤ b → rwaL o f c m us n st a ≤ rwbL c m n st b
  | 0, _, a, b, h => h
  | n + 1, st, a, b, h => by
    rw [rwaL, rwbL]
    refine rwa_le o f c m us n (st + 1) _ _ ?_
    unfold wgX
    split <;> omega
theorem pow6 {m : Nat} (h : m ≤ 6) : 10 ^ m ≤ 1000000 := by
  match m, h with
  | 0, _ | 1, _ | 2, _ | 3, _ | 4, _ | 5, _ | 6, _ => decide
theorem two6 {m : Nat} (h : m ≤ 6) : 2 ^ m ≤ 64 := by
  match m, h with
  | 0, _ | 1, _ | 2, _ | 3, _ | 4, _ | 5, _ | 6, _ => decide
theorem pow_sh6 {n : Int32} {m : Nat} (e : n = nI m) (h : m ≤ 6) : (1 : Int32) <<< (n &&& 31) = nI (2 ^ m) := by
  subst e
  match m, h with
  | 0, _ | 1, _ | 2, _ | 3, _ | 4, _ | 5, _ | 6, _ => decide +kernel
theorem bit6D : ∀ st, st < 64 → ∀ k, k < 6 → (nI st >>> (nI k &&& 31) &&& 1 = 1 ↔ Nat.testBit st k = true) := by decide +kernel
theorem nmul_c {c : Int32} {j : Nat} (h : c = nI j) (x : Nat) : nI x * c = nI (x * j) := by subst h; exact pk_mul x j
theorem sub_c {c : Int32} {j : Nat} (h : c = nI j) (hj : j ≤ 10) : (10 : Int32) - c = nI (10 - j) := by subst h; exact pk_sub hj
theorem cpF_ext {g f : Nat → Int32} (h : Nat → Int32) {off n : Nat} (hg : ∀ k, ¬ (off ≤ k ∧ k < off + n) → g k = f k) : cpF g h off n = cpF f h off n := by
  funext k
  unfold cpF
  split
  · rfl
  · next h1 => exact hg k h1
theorem cpF_back {g f : Nat → Int32} {off n : Nat} (hg : ∀ k, ¬ (off ≤ k ∧ k < off + n) → g k = f k) : cpF g (fun k => f (off + k)) off n = f := by
  rw [cpF_ext _ hg]
  funext k
  unfold cpF
  split
  · next h1 => show f (off + (k - off)) = f k; rw [show off + (k - off) = k by omega]
  · rfl
def rwrA (o f : Nat → Int32) (k : Int32) (n c : Nat) : Nat := rwaL o f c n (rbE o k f (fun j => f (96 + j)) 0) (2 ^ n) 0 0
def rwrR (o f : Nat → Int32) (k : Int32) (n c w : Int32) : Int32 := if wroP n c w then nI ((if w = 0 then rwrA o f k (tN n) (tN c) else 10 ^ tN n) / Nat.gcd (rwrA o f k (tN n) (tN c)) (10 ^ tN n)) else -1000001
def rwrD (d : mD) (nw rd : Nat) (n c w : Int32) : mD := if wroP n c w then tA d rd (cpF (gA d rd) (fun k => gA d nw (96 + k)) 0 (tN n)) else d
theorem gcd_stp {x y g : Nat} (h : Nat.gcd x y = g) : Nat.gcd y (x % y) = g := by rw [← h, Nat.gcd_comm x y, Nat.gcd_rec y x, Nat.gcd_comm]
theorem c_X9_wrong {l : Launch} {G : mG} {Z : mZ} {d : mD} {m nw od fd tp rd ah kp ka ln sz it mv : Nat} {n c w : Int32} (hm : mdS Z m nw od fd tp rd ah kp ka ln sz it mv) : CtI l G yX9_wrong cX9_wrong 11 .int 6 144 [.ref m, .int n, .int c, .int w] Z d (rwrR (gA d od) (gA d nw) (gA d nw 192) n c w) (rwrD d nw rd n c w) := by
  refine enterI RX9 7 [some (.ref m), some (.int n), some (.int c), some (.int w), none, none, none, none, none, none, none] (by decide) rfl (rfl) rfl rfl (fun X hR => ?_)
  refine il1 (pc := 0) dX9_wrong_0 ?_
  refine g_i2l (pc := 1) dX9_wrong_1 ?_
  refine g_lconst (pc := 2) dX9_wrong_2 kl0 ?_
  refine g_ldc2 (pc := 3) dX9_wrong_3 wk_X9_225 ?_
  refine cl_X9_70 (pc := 6) (c_X9_in) (by decide) ⟨Nat.zero_le _, Nat.zero_le _⟩ (Nat.le_of_ble_eq_true rfl) dX9_wrong_6 ?_
  rw [inI n (0) 6 (by decide) (by decide)]
  refine g_ifeq 34 (pc := 9) dX9_wrong_9 (by decide) (fun c9 => ?_) (fun c9 => ?_)
  · skip
    (try simp only [mB_eq0, Decidable.not_not] at c9)
    refine g_ldc (pc := 34) dX9_wrong_34 wk_X9_145 ?_
    exact retI (pc := 36) hR dX9_wrong_36 (by rw [rwrR, if_neg]; intro h9; simp [h9] at *) (by rw [rwrD, if_neg]; intro h9; simp [h9] at *)
  · skip
    (try simp only [mB_eq0, Decidable.not_not] at c9)
    refine il2 (pc := 12) dX9_wrong_12 ?_
    refine g_i2l (pc := 13) dX9_wrong_13 ?_
    refine g_lconst (pc := 14) dX9_wrong_14 kl0 ?_
    refine g_ldc2 (pc := 15) dX9_wrong_15 wk_X9_143 ?_
    refine cl_X9_70 (pc := 18) (c_X9_in) (by decide) ⟨Nat.zero_le _, Nat.zero_le _⟩ (Nat.le_of_ble_eq_true rfl) dX9_wrong_18 ?_
    rw [inI c (0) 10 (by decide) (by decide)]
    refine g_ifeq 34 (pc := 21) dX9_wrong_21 (by decide) (fun c21 => ?_) (fun c21 => ?_)
    · skip
      (try simp only [mB_eq0, Decidable.not_not] at c21)
      refine g_ldc (pc := 34) dX9_wrong_34 wk_X9_145 ?_
      exact retI (pc := 36) hR dX9_wrong_36 (by rw [rwrR, if_neg]; intro h9; simp [h9] at *) (by rw [rwrD, if_neg]; intro h9; simp [h9] at *)
    · skip
      (try simp only [mB_eq0, Decidable.not_not] at c21)
      refine il3 (pc := 24) dX9_wrong_24 ?_
      refine g_i2l (pc := 25) dX9_wrong_25 ?_
      refine g_lconst (pc := 26) dX9_wrong_26 kl0 ?_
      refine g_lconst (pc := 27) dX9_wrong_27 kl1 ?_
      refine cl_X9_70 (pc := 28) (c_X9_in) (by decide) ⟨Nat.zero_le _, Nat.zero_le _⟩ (Nat.le_of_ble_eq_true rfl) dX9_wrong_28 ?_
      rw [inI w (0) 1 (by decide) (by decide)]
      refine g_ifne 37 (pc := 31) dX9_wrong_31 (by decide) (fun c31 => ?_) (fun c31 => ?_)
      · skip
        (try simp only [mB_eq0, Decidable.not_not] at c31)
        have hn9 := wth_nI 6 (by decide) c9
        have hc9 := wth_nI 10 (by decide) c21
        have hp9 := pow6 hn9.2
        have ht9 := two6 hn9.2
        have hsh9 := pow_sh6 hn9.1 hn9.2
        refine g_iconst (pc := 37) dX9_wrong_37 kc0 ?_
        refine is4 (pc := 38) dX9_wrong_38 rfl ?_
        have L40 : ∀ (n9 i : Nat), i + n9 = (tN n) → mGo l G (mRm 6 144) X RX9 cX9_wrong 11 0 0 Z 40 [some (.ref m), some (.int n), some (.int c), some (.int w), some (.int (nI i)), none, none, none, none, none, none] [] (tA d rd (cpF (gA d rd) (fun k => gA d nw (96 + k)) 0 i)) := by
          intro n9; induction n9 with
          | zero =>
            intro i  hin40 
            obtain rfl : i = tN n := by omega
            refine il4 (pc := 40) dX9_wrong_40 ?_
            refine il1 (pc := 42) dX9_wrong_42 ?_
            refine g_icmpge 69 (pc := 43) dX9_wrong_43 (by decide) (fun c43 => ?_) (fun c43 => absurd (by rw [← hn9.1]; exact Int32.le_refl _) c43)
            refine al0 (pc := 69) dX9_wrong_69 ?_
            refine g_iconst (pc := 70) dX9_wrong_70 kc0 ?_
            refine cl_X9_116 (pc := 71) (c_X9_best hm) hm.o9 (by decide) ⟨Nat.zero_le _, Nat.zero_le _⟩ (Nat.le_of_ble_eq_true rfl) dX9_wrong_71 ?_
            rw [gA_tA, if_neg hm.n_od_rd, gA_tA, if_neg hm.n_nw_rd]
            refine is4 (pc := 74) dX9_wrong_74 rfl ?_
            refine g_iconst (pc := 76) dX9_wrong_76 kc0 ?_
            refine is5 (pc := 77) dX9_wrong_77 rfl ?_
            refine g_iconst (pc := 79) dX9_wrong_79 kc0 ?_
            refine is6 (pc := 80) dX9_wrong_80 rfl ?_
            refine g_iconst (pc := 82) dX9_wrong_82 kc0 ?_
            refine is7 (pc := 83) dX9_wrong_83 rfl ?_
            have L85 : ∀ (n9 sq : Nat) (g : Nat → Int32) (A : Nat) (Bl : Nat), sq + n9 = (2 ^ tN n) → (∀ k, ¬ (96 ≤ k ∧ k < 96 + tN n) → g k = gA d nw k) → (rwaL (gA d od) (gA d nw) (tN c) (tN n) (rbE (gA d od) (gA d nw 192) (gA d nw) (fun k => gA d nw (96 + k)) 0) n9 sq A = (rwrA (gA d od) (gA d nw) (gA d nw 192) (tN n) (tN c))) → (rwbL (tN c) (tN n) n9 sq Bl = (10 ^ tN n)) → mGo l G (mRm 6 144) X RX9 cX9_wrong 11 0 0 Z 85 [some (.ref m), some (.int n), some (.int c), some (.int w), some (.int (rbE (gA d od) (gA d nw 192) (gA d nw) (fun k => gA d nw (96 + k)) 0)), some (.int (nI A)), some (.int (nI Bl)), some (.int (nI sq)), none, none, none] [] (tA (tA d rd (cpF (gA d rd) (fun k => gA d nw (96 + k)) 0 (tN n))) nw g) := by
              intro n9; induction n9 with
              | zero =>
                intro sq g A Bl hin85 hg hA hB
                have hA2 : A = (rwrA (gA d od) (gA d nw) (gA d nw 192) (tN n) (tN c)) := hA
                have hB2 : Bl = (10 ^ tN n) := hB
                subst hA2
                subst hB2
                have hle9 : (rwrA (gA d od) (gA d nw) (gA d nw 192) (tN n) (tN c)) ≤ (10 ^ tN n) := by rw [← rwb_eq (tN c) (by omega) (tN n) (by omega)]; exact rwa_le _ _ _ _ _ _ _ _ _ (Nat.le_refl _)
                obtain rfl : sq = 2 ^ tN n := by omega
                refine il7 (pc := 85) dX9_wrong_85 ?_
                refine g_iconst (pc := 87) dX9_wrong_87 kc1 ?_
                refine il1 (pc := 88) dX9_wrong_88 ?_
                refine g_ishl (pc := 89) dX9_wrong_89 ?_
                rw [hsh9]
                refine g_icmpge 221 (pc := 90) dX9_wrong_90 (by decide) (fun c90 => ?_) (fun c90 => absurd (Int32.le_refl _) c90)
                refine g_iconst (pc := 221) dX9_wrong_221 kc0 ?_
                refine is7 (pc := 222) dX9_wrong_222 rfl ?_
                have L224 : ∀ (n7 i2 : Nat), i2 + n7 = (tN n) → mGo l G (mRm 6 144) X RX9 cX9_wrong 11 0 0 Z 224 [some (.ref m), some (.int n), some (.int c), some (.int w), some (.int (rbE (gA d od) (gA d nw 192) (gA d nw) (fun k => gA d nw (96 + k)) 0)), some (.int (nI (rwrA (gA d od) (gA d nw) (gA d nw 192) (tN n) (tN c)))), some (.int (nI (10 ^ tN n))), some (.int (nI i2)), none, none, none] [] (tA (tA d rd (cpF (gA d rd) (fun k => gA d nw (96 + k)) 0 (tN n))) nw (cpF g (fun k => gA d nw (96 + k)) 96 i2)) := by
                  intro n7; induction n7 with
                  | zero =>
                    intro i2  hin224 
                    obtain rfl : i2 = tN n := by omega
                    rw [cpF_back hg, show tA (tA d rd (cpF (gA d rd) (fun k => gA d nw (96 + k)) 0 (tN n))) nw (gA d nw) = (tA d rd (cpF (gA d rd) (fun k => gA d nw (96 + k)) 0 (tN n))) from tA_selfE (by rw [gA_tA, if_neg hm.n_nw_rd])]
                    refine il7 (pc := 224) dX9_wrong_224 ?_
                    refine il1 (pc := 226) dX9_wrong_226 ?_
                    refine g_icmpge 253 (pc := 227) dX9_wrong_227 (by decide) (fun c227 => ?_) (fun c227 => absurd (by rw [← hn9.1]; exact Int32.le_refl _) c227)
                    refine il5 (pc := 253) dX9_wrong_253 ?_
                    refine is7 (pc := 255) dX9_wrong_255 rfl ?_
                    refine il6 (pc := 257) dX9_wrong_257 ?_
                    refine is8 (pc := 259) dX9_wrong_259 rfl ?_
                    have L261 : ∀ (n6 i6 : Nat) (x : Nat) (y : Nat), i6 + n6 = (10 ^ tN n) → (y ≤ n6) → (Nat.gcd x y = (Nat.gcd (rwrA (gA d od) (gA d nw) (gA d nw 192) (tN n) (tN c)) (10 ^ tN n))) → (x < 2 ^ 31) → (y < 2 ^ 31) → mGo l G (mRm 6 144) X RX9 cX9_wrong 11 0 0 Z 261 [some (.ref m), some (.int n), some (.int c), some (.int w), some (.int (rbE (gA d od) (gA d nw 192) (gA d nw) (fun k => gA d nw (96 + k)) 0)), some (.int (nI (rwrA (gA d od) (gA d nw) (gA d nw 192) (tN n) (tN c)))), some (.int (nI (10 ^ tN n))), some (.int (nI x)), some (.int (nI y)), none, none] [] (tA d rd (cpF (gA d rd) (fun k => gA d nw (96 + k)) 0 (tN n))) := by
                      intro n6; induction n6 with
                      | zero =>
                        intro i6 x y hin261 hy6 hgc hx31 hy31
                        obtain rfl : y = 0 := by omega
                        refine il8 (pc := 261) dX9_wrong_261 ?_
                        refine g_ifeq 284 (pc := 263) dX9_wrong_263 (by decide) (fun c263 => ?_) (fun c263 => absurd rfl c263)
                        have hx9 : x = (Nat.gcd (rwrA (gA d od) (gA d nw) (gA d nw 192) (tN n) (tN c)) (10 ^ tN n)) := by rw [← hgc, Nat.gcd_zero_right]
                        have hgp : 0 < (Nat.gcd (rwrA (gA d od) (gA d nw) (gA d nw 192) (tN n) (tN c)) (10 ^ tN n)) := Nat.gcd_pos_of_pos_right _ (Nat.pow_pos (by decide))
                        refine il3 (pc := 284) dX9_wrong_284 ?_
                        refine g_ifne 293 (pc := 285) dX9_wrong_285 (by decide) (fun c285 => ?_) (fun c285 => ?_)
                        · skip
                          refine il6 (pc := 293) dX9_wrong_293 ?_
                          refine il7 (pc := 295) dX9_wrong_295 ?_
                          refine g_idiv (pc := 297) dX9_wrong_297 (fun h => by have h8 := (nI_eq (b := 0) (by omega) (by decide)).mp h; omega) ?_
                          exact retI (pc := 298) hR dX9_wrong_298 (by rw [rwrR, if_pos ⟨⟨c9, c21⟩, c31⟩]; simp only [c285]; rw [show nI (10 ^ tN n) / nI x = nI ((10 ^ tN n) / x) from pk_div (by omega) (by omega) (by omega), hx9]; simp) (by rw [rwrD, if_pos ⟨⟨c9, c21⟩, c31⟩])
                        · skip
                          refine il5 (pc := 288) dX9_wrong_288 ?_
                          refine g_goto 295 (pc := 290) dX9_wrong_290 (by decide) ?_
                          refine il7 (pc := 295) dX9_wrong_295 ?_
                          refine g_idiv (pc := 297) dX9_wrong_297 (fun h => by have h8 := (nI_eq (b := 0) (by omega) (by decide)).mp h; omega) ?_
                          exact retI (pc := 298) hR dX9_wrong_298 (by rw [rwrR, if_pos ⟨⟨c9, c21⟩, c31⟩]; simp only [c285]; rw [show nI (rwrA (gA d od) (gA d nw) (gA d nw 192) (tN n) (tN c)) / nI x = nI ((rwrA (gA d od) (gA d nw) (gA d nw 192) (tN n) (tN c)) / x) from pk_div (by omega) (by omega) (by omega), hx9]; simp) (by rw [rwrD, if_pos ⟨⟨c9, c21⟩, c31⟩])
                      | succ n6 ih261 =>
                        intro i6 x y hin261 hy6 hgc hx31 hy31
                        refine il8 (pc := 261) dX9_wrong_261 ?_
                        refine g_ifeq 284 (pc := 263) dX9_wrong_263 (by decide) (fun c263 => ?_) (fun c263 => ?_)
                        · skip
                          have hx9 : x = (Nat.gcd (rwrA (gA d od) (gA d nw) (gA d nw 192) (tN n) (tN c)) (10 ^ tN n)) := by rw [← hgc, (nI_eq (b := 0) (by omega) (by decide)).mp c263, Nat.gcd_zero_right]
                          have hgp : 0 < (Nat.gcd (rwrA (gA d od) (gA d nw) (gA d nw 192) (tN n) (tN c)) (10 ^ tN n)) := Nat.gcd_pos_of_pos_right _ (Nat.pow_pos (by decide))
                          refine il3 (pc := 284) dX9_wrong_284 ?_
                          refine g_ifne 293 (pc := 285) dX9_wrong_285 (by decide) (fun c285 => ?_) (fun c285 => ?_)
                          · skip
                            refine il6 (pc := 293) dX9_wrong_293 ?_
                            refine il7 (pc := 295) dX9_wrong_295 ?_
                            refine g_idiv (pc := 297) dX9_wrong_297 (fun h => by have h8 := (nI_eq (b := 0) (by omega) (by decide)).mp h; omega) ?_
                            exact retI (pc := 298) hR dX9_wrong_298 (by rw [rwrR, if_pos ⟨⟨c9, c21⟩, c31⟩]; simp only [c285]; rw [show nI (10 ^ tN n) / nI x = nI ((10 ^ tN n) / x) from pk_div (by omega) (by omega) (by omega), hx9]; simp) (by rw [rwrD, if_pos ⟨⟨c9, c21⟩, c31⟩])
                          · skip
                            refine il5 (pc := 288) dX9_wrong_288 ?_
                            refine g_goto 295 (pc := 290) dX9_wrong_290 (by decide) ?_
                            refine il7 (pc := 295) dX9_wrong_295 ?_
                            refine g_idiv (pc := 297) dX9_wrong_297 (fun h => by have h8 := (nI_eq (b := 0) (by omega) (by decide)).mp h; omega) ?_
                            exact retI (pc := 298) hR dX9_wrong_298 (by rw [rwrR, if_pos ⟨⟨c9, c21⟩, c31⟩]; simp only [c285]; rw [show nI (rwrA (gA d od) (gA d nw) (gA d nw 192) (tN n) (tN c)) / nI x = nI ((rwrA (gA d od) (gA d nw) (gA d nw 192) (tN n) (tN c)) / x) from pk_div (by omega) (by omega) (by omega), hx9]; simp) (by rw [rwrD, if_pos ⟨⟨c9, c21⟩, c31⟩])
                        · skip
                          refine il7 (pc := 266) dX9_wrong_266 ?_
                          refine il8 (pc := 268) dX9_wrong_268 ?_
                          refine g_irem (pc := 270) dX9_wrong_270 (fun h => c263 h) ?_
                          rw [show mRem (nI x) (nI y) = nI (x % y) from pk_rem (by omega) (by rcases Nat.eq_zero_or_pos y with h | h; exact absurd (by rw [h]; rfl) c263; exact h) (by omega)]
                          refine is9 (pc := 271) dX9_wrong_271 rfl ?_
                          refine il8 (pc := 273) dX9_wrong_273 ?_
                          refine is7 (pc := 275) dX9_wrong_275 rfl ?_
                          refine il9 (pc := 277) dX9_wrong_277 ?_
                          refine is8 (pc := 279) dX9_wrong_279 rfl ?_
                          refine g_goto 261 (pc := 281) dX9_wrong_281 (by decide) ?_
                          refine dr9 ?_
                          exact ih261 (i6 + 1) y (x % y) (by omega) (by have := Nat.mod_lt x (show 0 < y by rcases Nat.eq_zero_or_pos y with h | h; exact absurd (by rw [h]; rfl) c263; exact h); omega) (gcd_stp hgc) hy31 (by have := Nat.mod_le x y; omega)
                    exact L261 (10 ^ tN n) 0 (rwrA (gA d od) (gA d nw) (gA d nw 192) (tN n) (tN c)) (10 ^ tN n) (by omega) (by omega) rfl (by omega) (by omega)
                  | succ n7 ih224 =>
                    intro i2  hin224 
                    refine il7 (pc := 224) dX9_wrong_224 ?_
                    refine il1 (pc := 226) dX9_wrong_226 ?_
                    refine g_icmpge 253 (pc := 227) dX9_wrong_227 (by decide) (fun c227 => absurd c227 (by rw [hn9.1]; exact nI_ge (by omega) (by omega))) (fun c227 => ?_)
                    refine al0 (pc := 230) dX9_wrong_230 ?_
                    refine gf_X9_7 (pc := 231) hm.o9 hm.r288 dX9_wrong_231 ?_
                    refine g_bipush (pc := 234) dX9_wrong_234 kb96 ?_
                    refine il7 (pc := 236) dX9_wrong_236 ?_
                    refine g_iadd (pc := 238) dX9_wrong_238 ?_
                    refine al0 (pc := 239) dX9_wrong_239 ?_
                    refine gf_X9_22 (pc := 240) hm.o9 hm.r297 dX9_wrong_240 ?_
                    refine il7 (pc := 243) dX9_wrong_243 ?_
                    refine g_iald (pc := 245) i2 hm.a_rd (by omega) (rfl) (by decide) dX9_wrong_245 ?_
                    rw [gA_tA, if_neg hm.n_rd_nw, gA_tA, if_pos rfl, cpF_in0 _ _ _ _ (by omega)]
                    refine g_iast (pc := 246) (96 + i2) hm.a_nw (by omega) (nI_add 96 i2) (by decide) dX9_wrong_246 ?_
                    rw [gA_tA, if_pos rfl, tA_tA, cpF_s g (fun k => gA d nw (96 + k)) 96 i2]
                    refine ic7 (pc := 247) dX9_wrong_247 kc1 rfl ?_
                    refine g_goto 224 (pc := 250) dX9_wrong_250 (by decide) ?_
                    rw [nI_1]
                    exact ih224 (i2 + 1) (by omega)
                have q9 := L224 (tN n) 0 (by omega)
                rw [cpF_0] at q9
                exact q9
              | succ n9 ih85 =>
                intro sq g A Bl hin85 hg hA hB
                refine il7 (pc := 85) dX9_wrong_85 ?_
                refine g_iconst (pc := 87) dX9_wrong_87 kc1 ?_
                refine il1 (pc := 88) dX9_wrong_88 ?_
                refine g_ishl (pc := 89) dX9_wrong_89 ?_
                rw [hsh9]
                refine g_icmpge 221 (pc := 90) dX9_wrong_90 (by decide) (fun c90 => absurd c90 (nI_ge (by omega) (by omega))) (fun c90 => ?_)
                refine g_iconst (pc := 93) dX9_wrong_93 kc1 ?_
                refine is8 (pc := 94) dX9_wrong_94 rfl ?_
                refine g_iconst (pc := 96) dX9_wrong_96 kc0 ?_
                refine is9 (pc := 97) dX9_wrong_97 rfl ?_
                have L99 : ∀ (n8 k : Nat) (w8 : Nat), k + n8 = (tN n) → (wtN (tN c) sq n8 k w8 = wtN (tN c) sq (tN n) 0 1) → mGo l G (mRm 6 144) X RX9 cX9_wrong 11 0 0 Z 99 [some (.ref m), some (.int n), some (.int c), some (.int w), some (.int (rbE (gA d od) (gA d nw 192) (gA d nw) (fun k => gA d nw (96 + k)) 0)), some (.int (nI A)), some (.int (nI Bl)), some (.int (nI sq)), some (.int (nI w8)), some (.int (nI k)), none] [] (tA (tA d rd (cpF (gA d rd) (fun k => gA d nw (96 + k)) 0 (tN n))) nw (cpF g (tog (fun k => gA d nw (96 + k)) sq) 96 k)) := by
                  intro n8; induction n8 with
                  | zero =>
                    intro k w8 hin99 hW
                    have hW2 : w8 = wtN (tN c) sq (tN n) 0 1 := hW
                    subst hW2
                    obtain rfl : k = tN n := by omega
                    have hwl := wtN_le hc9.2 sq (tN n) 0 1
                    rw [cpF_ext _ hg, ← wgF]
                    refine il9 (pc := 99) dX9_wrong_99 ?_
                    refine il1 (pc := 101) dX9_wrong_101 ?_
                    refine g_icmpge 182 (pc := 102) dX9_wrong_102 (by decide) (fun c102 => ?_) (fun c102 => absurd (by rw [← hn9.1]; exact Int32.le_refl _) c102)
                    refine il6 (pc := 182) dX9_wrong_182 ?_
                    refine il8 (pc := 184) dX9_wrong_184 ?_
                    refine g_iadd (pc := 186) dX9_wrong_186 ?_
                    rw [nI_add]
                    refine is6 (pc := 187) dX9_wrong_187 rfl ?_
                    have J212 : ∀ (x9 : Int32), x9 = nI (wgX (gA d od) (gA d nw) (tN n) (tN c) (rbE (gA d od) (gA d nw 192) (gA d nw) (fun k => gA d nw (96 + k)) 0) sq) → mGo l G (mRm 6 144) X RX9 cX9_wrong 11 0 0 Z 212 [some (.ref m), some (.int n), some (.int c), some (.int w), some (.int (rbE (gA d od) (gA d nw 192) (gA d nw) (fun k => gA d nw (96 + k)) 0)), some (.int (nI A)), some (.int (nI (Bl + wtN (tN c) sq (tN n) 0 1))), some (.int (nI sq)), some (.int (nI (wtN (tN c) sq (tN n) 0 1))), none, none] [.int x9, .int (nI A)] (tA (tA d rd (cpF (gA d rd) (fun k => gA d nw (96 + k)) 0 (tN n))) nw (wgF (gA d nw) (tN n) sq)) := by
                      intro x9 hJ212
                      subst hJ212
                      refine g_iadd (pc := 212) dX9_wrong_212 ?_
                      rw [nI_add]
                      refine is5 (pc := 213) dX9_wrong_213 rfl ?_
                      refine ic7 (pc := 215) dX9_wrong_215 kc1 rfl ?_
                      refine g_goto 85 (pc := 218) dX9_wrong_218 (by decide) ?_
                      rw [nI_1]
                      refine dr8 ?_
                      exact ih85 (sq + 1) _ _ _ (by omega) (fun k hk => by unfold wgF; exact if_neg hk) hA hB
                    refine il5 (pc := 189) dX9_wrong_189 ?_
                    refine il8 (pc := 191) dX9_wrong_191 ?_
                    refine g_ifle 211 (pc := 193) dX9_wrong_193 (by decide) (fun c193 => ?_) (fun c193 => ?_)
                    · skip
                      refine g_iconst (pc := 211) dX9_wrong_211 kc0 ?_
                      refine dr9 ?_
                      exact J212 _ (by rw [wgX, if_neg (fun h => by have h8 := (nI_leI (b := 0) (by omega) (by decide)).mp c193; omega)]; rfl)
                    · skip
                      refine al0 (pc := 196) dX9_wrong_196 ?_
                      refine g_iconst (pc := 197) dX9_wrong_197 kc0 ?_
                      refine cl_X9_116 (pc := 198) (c_X9_best hm) hm.o9 (by decide) ⟨Nat.zero_le _, Nat.zero_le _⟩ (Nat.le_of_ble_eq_true rfl) dX9_wrong_198 ?_
                      rw [gA_tA, if_neg hm.n_od_nw, gA_tA, if_neg hm.n_od_rd, gA_tA, if_pos rfl, ← wgB]
                      refine il4 (pc := 201) dX9_wrong_201 ?_
                      refine g_icmpeq 211 (pc := 203) dX9_wrong_203 (by decide) (fun c203 => ?_) (fun c203 => ?_)
                      · skip
                        refine g_iconst (pc := 211) dX9_wrong_211 kc0 ?_
                        refine dr9 ?_
                        exact J212 _ (by rw [wgX, if_neg (fun h => h.2 c203)]; rfl)
                      · skip
                        refine il8 (pc := 206) dX9_wrong_206 ?_
                        refine g_goto 212 (pc := 208) dX9_wrong_208 (by decide) ?_
                        refine dr9 ?_
                        exact J212 _ (by rw [wgX, if_pos ⟨by rcases Nat.eq_zero_or_pos (wtN (tN c) sq (tN n) 0 1) with h | h; exact absurd (by rw [h]; decide) c193; exact h, c203⟩])
                  | succ n8 ih99 =>
                    intro k w8 hin99 hW
                    refine il9 (pc := 99) dX9_wrong_99 ?_
                    refine il1 (pc := 101) dX9_wrong_101 ?_
                    refine g_icmpge 182 (pc := 102) dX9_wrong_102 (by decide) (fun c102 => absurd c102 (by rw [hn9.1]; exact nI_ge (by omega) (by omega))) (fun c102 => ?_)
                    refine il7 (pc := 105) dX9_wrong_105 ?_
                    refine il9 (pc := 107) dX9_wrong_107 ?_
                    refine g_ishr (pc := 109) dX9_wrong_109 ?_
                    refine g_iconst (pc := 110) dX9_wrong_110 kc1 ?_
                    refine g_iand (pc := 111) dX9_wrong_111 ?_
                    refine g_iconst (pc := 112) dX9_wrong_112 kc1 ?_
                    refine g_icmpne 120 (pc := 113) dX9_wrong_113 (by decide) (fun c113 => ?_) (fun c113 => ?_)
                    · skip
                      have hb9 : ¬ Nat.testBit sq k = true := fun h => c113 ((bit6D sq (by omega) k (by omega)).mpr h)
                      refine g_iconst (pc := 120) dX9_wrong_120 kc0 ?_
                      refine is10 (pc := 121) dX9_wrong_121 rfl ?_
                      refine il8 (pc := 123) dX9_wrong_123 ?_
                      refine il10 (pc := 125) dX9_wrong_125 ?_
                      refine g_ifeq 134 (pc := 127) dX9_wrong_127 (by decide) (fun c127 => ?_) (fun c127 => absurd rfl c127)
                      refine g_bipush (pc := 134) dX9_wrong_134 kb10 ?_
                      refine il2 (pc := 136) dX9_wrong_136 ?_
                      refine g_isub (pc := 137) dX9_wrong_137 ?_
                      refine g_imul (pc := 138) dX9_wrong_138 ?_
                      rw [sub_c hc9.1 hc9.2, pk_mul]
                      refine is8 (pc := 139) dX9_wrong_139 rfl ?_
                      refine al0 (pc := 141) dX9_wrong_141 ?_
                      refine gf_X9_7 (pc := 142) hm.o9 hm.r288 dX9_wrong_142 ?_
                      refine g_bipush (pc := 145) dX9_wrong_145 kb96 ?_
                      refine il9 (pc := 147) dX9_wrong_147 ?_
                      refine g_iadd (pc := 149) dX9_wrong_149 ?_
                      refine il10 (pc := 150) dX9_wrong_150 ?_
                      refine g_ifeq 168 (pc := 152) dX9_wrong_152 (by decide) (fun c152 => ?_) (fun c152 => absurd rfl c152)
                      refine al0 (pc := 168) dX9_wrong_168 ?_
                      refine gf_X9_22 (pc := 169) hm.o9 hm.r297 dX9_wrong_169 ?_
                      refine il9 (pc := 172) dX9_wrong_172 ?_
                      refine g_iald (pc := 174) k hm.a_rd (by omega) (rfl) (by decide) dX9_wrong_174 ?_
                      rw [gA_tA, if_neg hm.n_rd_nw, gA_tA, if_pos rfl, cpF_in0 _ _ _ _ (by omega)]
                      refine g_iast (pc := 175) (96 + k) hm.a_nw (by omega) (nI_add 96 k) (by decide) dX9_wrong_175 ?_
                      rw [gA_tA, if_pos rfl, tA_tA, show gA d nw (96 + k) = tog (fun k => gA d nw (96 + k)) sq k from (if_neg hb9).symm, cpF_s]
                      refine ic9 (pc := 176) dX9_wrong_176 kc1 rfl ?_
                      refine g_goto 99 (pc := 179) dX9_wrong_179 (by decide) ?_
                      rw [nI_1]
                      refine dr10 ?_
                      exact ih99 (k + 1) _ (by omega) (by rw [← hW, wtN, if_neg hb9])
                    · skip
                      have hb9 : Nat.testBit sq k = true := (bit6D sq (by omega) k (by omega)).mp c113
                      refine g_iconst (pc := 116) dX9_wrong_116 kc1 ?_
                      refine g_goto 121 (pc := 117) dX9_wrong_117 (by decide) ?_
                      refine is10 (pc := 121) dX9_wrong_121 rfl ?_
                      refine il8 (pc := 123) dX9_wrong_123 ?_
                      refine il10 (pc := 125) dX9_wrong_125 ?_
                      refine g_ifeq 134 (pc := 127) dX9_wrong_127 (by decide) (fun c127 => absurd c127 (by decide)) (fun c127 => ?_)
                      refine il2 (pc := 130) dX9_wrong_130 ?_
                      refine g_goto 138 (pc := 131) dX9_wrong_131 (by decide) ?_
                      refine g_imul (pc := 138) dX9_wrong_138 ?_
                      rw [nmul_c hc9.1]
                      refine is8 (pc := 139) dX9_wrong_139 rfl ?_
                      refine al0 (pc := 141) dX9_wrong_141 ?_
                      refine gf_X9_7 (pc := 142) hm.o9 hm.r288 dX9_wrong_142 ?_
                      refine g_bipush (pc := 145) dX9_wrong_145 kb96 ?_
                      refine il9 (pc := 147) dX9_wrong_147 ?_
                      refine g_iadd (pc := 149) dX9_wrong_149 ?_
                      refine il10 (pc := 150) dX9_wrong_150 ?_
                      refine g_ifeq 168 (pc := 152) dX9_wrong_152 (by decide) (fun c152 => absurd c152 (by decide)) (fun c152 => ?_)
                      refine g_bipush (pc := 155) dX9_wrong_155 kb9 ?_
                      refine al0 (pc := 157) dX9_wrong_157 ?_
                      refine gf_X9_22 (pc := 158) hm.o9 hm.r297 dX9_wrong_158 ?_
                      refine il9 (pc := 161) dX9_wrong_161 ?_
                      refine g_iald (pc := 163) k hm.a_rd (by omega) (rfl) (by decide) dX9_wrong_163 ?_
                      rw [gA_tA, if_neg hm.n_rd_nw, gA_tA, if_pos rfl, cpF_in0 _ _ _ _ (by omega)]
                      refine g_isub (pc := 164) dX9_wrong_164 ?_
                      refine g_goto 175 (pc := 165) dX9_wrong_165 (by decide) ?_
                      refine g_iast (pc := 175) (96 + k) hm.a_nw (by omega) (nI_add 96 k) (by decide) dX9_wrong_175 ?_
                      rw [gA_tA, if_pos rfl, tA_tA, show 9 - gA d nw (96 + k) = tog (fun k => gA d nw (96 + k)) sq k from (if_pos hb9).symm, cpF_s]
                      refine ic9 (pc := 176) dX9_wrong_176 kc1 rfl ?_
                      refine g_goto 99 (pc := 179) dX9_wrong_179 (by decide) ?_
                      rw [nI_1]
                      refine dr10 ?_
                      exact ih99 (k + 1) _ (by omega) (by rw [← hW, wtN, if_pos hb9])
                have q9 := L99 (tN n) 0 1 (by omega) rfl
                rw [cpF_0] at q9
                exact q9
            have q9 := L85 (2 ^ tN n) 0 (gA d nw) 0 0 (by omega) (fun _ _ => rfl) rfl (rwb_eq _ (by omega) _ (by omega))
            rw [show tA (tA d rd (cpF (gA d rd) (fun k => gA d nw (96 + k)) 0 (tN n))) nw (gA d nw) = (tA d rd (cpF (gA d rd) (fun k => gA d nw (96 + k)) 0 (tN n))) from tA_selfE (by rw [gA_tA, if_neg hm.n_nw_rd])] at q9
            exact q9
          | succ n9 ih40 =>
            intro i  hin40 
            refine il4 (pc := 40) dX9_wrong_40 ?_
            refine il1 (pc := 42) dX9_wrong_42 ?_
            refine g_icmpge 69 (pc := 43) dX9_wrong_43 (by decide) (fun c43 => absurd c43 (by rw [hn9.1]; exact nI_ge (by omega) (by omega))) (fun c43 => ?_)
            refine al0 (pc := 46) dX9_wrong_46 ?_
            refine gf_X9_22 (pc := 47) hm.o9 hm.r297 dX9_wrong_47 ?_
            refine il4 (pc := 50) dX9_wrong_50 ?_
            refine al0 (pc := 52) dX9_wrong_52 ?_
            refine gf_X9_7 (pc := 53) hm.o9 hm.r288 dX9_wrong_53 ?_
            refine g_bipush (pc := 56) dX9_wrong_56 kb96 ?_
            refine il4 (pc := 58) dX9_wrong_58 ?_
            refine g_iadd (pc := 60) dX9_wrong_60 ?_
            refine g_iald (pc := 61) (96 + i) hm.a_nw (by omega) (nI_add 96 i) (by decide) dX9_wrong_61 ?_
            rw [gA_tA, if_neg hm.n_nw_rd]
            refine g_iast (pc := 62) i hm.a_rd (by omega) (rfl) (by decide) dX9_wrong_62 ?_
            rw [gA_tA, if_pos rfl, tA_tA, cpF_s0 (gA d rd) (fun k => gA d nw (96 + k)) i]
            refine ic4 (pc := 63) dX9_wrong_63 kc1 rfl ?_
            refine g_goto 40 (pc := 66) dX9_wrong_66 (by decide) ?_
            rw [nI_1]
            exact ih40 (i + 1) (by omega)
        have q9 := L40 (tN n) 0 (by omega)
        rw [cpF_0, tA_self] at q9
        exact q9
      · skip
        (try simp only [mB_eq0, Decidable.not_not] at c31)
        refine g_ldc (pc := 34) dX9_wrong_34 wk_X9_145 ?_
        exact retI (pc := 36) hR dX9_wrong_36 (by rw [rwrR, if_neg]; intro h9; simp [h9] at *) (by rw [rwrD, if_neg]; intro h9; simp [h9] at *)
