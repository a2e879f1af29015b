theorem mLv.of2 {ls : Array Slot} {nL : Nat} {lv : List (Option Value)} {i : Nat} {v : Value} (hl : lv.length ≤ nL) (hp : mPrev lv i = true) (h : lv_has ls nL ((i, v) :: (mPr 0 lv).filter (fun q => !(q.1 == i) && (!(q.1 == i + 1) && !(q.1 + 1 == i && q.2.category == 2))))) : mLv ls nL ((lv.set (i + 1) none).set i (some v)) := by
  refine ⟨h.1, h.2.1, by simpa using hl, fun k w hk => ?_⟩
  by_cases hki : k = i
  · subst hki
    by_cases hlt : k < lv.length
    · rw [List.getElem?_set_self (by simpa using hlt)] at hk
      have e : v = w := Option.some.inj (Option.some.inj hk)
      exact h.2.2 (k, w) (by rw [e]; exact List.mem_cons_self)
    · rw [List.getElem?_eq_none (by simpa using Nat.not_lt.mp hlt)] at hk
      cases hk
  · rw [List.getElem?_set_ne (Ne.symm hki)] at hk
    by_cases hk2 : k = i + 1
    · subst hk2
      by_cases hlt : i + 1 < lv.length
      · rw [List.getElem?_set_self hlt] at hk; cases hk
      · rw [List.getElem?_eq_none (by simpa using Nat.not_lt.mp hlt)] at hk; cases hk
    rw [List.getElem?_set_ne (Ne.symm hk2)] at hk
    refine h.2.2 (k, w) (List.mem_cons_of_mem _ (List.mem_filter.mpr ⟨(mPr_mem lv 0 k w).mpr ⟨k, by omega, hk⟩, ?_⟩))
    simp only [Bool.and_eq_true, Bool.not_eq_true', beq_eq_false_iff_ne, ne_eq, Bool.and_eq_false_iff]
    refine ⟨hki, hk2, ?_⟩
    by_cases hk1 : k + 1 = i
    · exact Or.inr (mPrev_cat hp hk1 hk)
    · exact Or.inl hk1
theorem ls3 {l : Launch} {G : mG} {R : Room} {X : mF} {own : String} {cc : ByteArray} {nL kc ns : Nat} {Z : mZ} {pc : Nat} {rest : List Value} {d : mD} {o0 o1 o2 o3 o4 : Option Value} {rq : List (Option Value)} {x : Int64} (hd : decode cc pc = .ok (.lstore_n 3, 1)) (hp : mC1 o2 = true) (kk : mGo l G R X own cc nL kc ns Z (pc + 1) (o0 :: o1 :: o2 :: some (.long x) :: none :: rq) rest d) : mGo l G R X own cc nL kc ns Z pc (o0 :: o1 :: o2 :: o3 :: o4 :: rq) (.long x :: rest) d := fun C H locs ls hW hL => lv_lstore_n C.1 C.2.1 hd rfl hL.has (by have := hL.2.2.1; simp only [List.length_cons] at this; show 3 + 1 < nL; omega) rfl (fun ls' h' => kk C H locs ls' hW (mLv.of2 (i := 3) hL.2.2.1 hp h'))
theorem drw_long {v : Int32} (h : 0 ≤ v) : (mRemL (v.toInt64 * 1103515245 + 12345) 2147483648).toInt32 = drwI v := by
  obtain ⟨j, hj, rfl⟩ := nI_of (Int32.not_lt.mpr h)
  have hx : ((nI j).toInt64 * 1103515245 + 12345).toInt = (j : Int) * 1103515245 + 12345 := by
    rw [Int64.toInt_add, Int64.toInt_mul, Int32.toInt_toInt64, nI_toInt hj, show (1103515245 : Int64).toInt = 1103515245 by decide, show (12345 : Int64).toInt = 12345 by decide, show ((j : Int) * 1103515245).bmod (2 ^ 64) = (j : Int) * 1103515245 from Int.bmod_eq_of_le (by omega) (by omega), Int.bmod_eq_of_le (by omega) (by omega)]
  have hq : (((nI j).toInt64 * 1103515245 + 12345) / 2147483648).toInt = ((j : Int) * 1103515245 + 12345) / 2147483648 := by
    rw [Int64.toInt_div, hx, show (2147483648 : Int64).toInt = 2147483648 by decide, Int.tdiv_eq_ediv_of_nonneg (by omega), Int.bmod_eq_of_le (by omega) (by omega)]
  have hr : (mRemL ((nI j).toInt64 * 1103515245 + 12345) 2147483648).toInt = ((j : Int) * 1103515245 + 12345) % 2147483648 := by
    unfold mRemL
    rw [Int64.toInt_sub, Int64.toInt_mul, hx, hq, show (2147483648 : Int64).toInt = 2147483648 by decide, show (((j : Int) * 1103515245 + 12345) / 2147483648 * 2147483648).bmod (2 ^ 64) = ((j : Int) * 1103515245 + 12345) / 2147483648 * 2147483648 from Int.bmod_eq_of_le (by omega) (by omega), Int.bmod_eq_of_le (by omega) (by omega)]
    omega
  have hd : (drwI (nI j)).toInt = ((j : Int) * 1103515245 + 12345) % 2147483648 := by
    obtain ⟨e, he⟩ := drw_nI (nI j)
    have hn : drwN (nI j) = (j * 1103515245 + 12345) % 2147483648 := by
      have e2 : (drwI (nI j)).toBitVec.toNat = (j * 1103515245 + 12345) % 2147483648 := by
        unfold drwI
        rw [Int32.toBitVec_and, BitVec.toNat_and, show (2147483647 : Int32).toBitVec.toNat = 2 ^ 31 - 1 by decide, Nat.and_two_pow_sub_one_eq_mod]
        rw [Int32.toBitVec_add, Int32.toBitVec_mul, BitVec.toNat_add, BitVec.toNat_mul]
        rw [show (nI j).toBitVec.toNat = j from by show (BitVec.ofNat 32 j).toNat = j; rw [BitVec.toNat_ofNat]; exact Nat.mod_eq_of_lt (by omega), show (1103515245 : Int32).toBitVec.toNat = 1103515245 by decide, show (12345 : Int32).toBitVec.toNat = 12345 by decide]
        omega
      rw [e] at e2
      rw [← e2]
      show drwN (nI j) = (BitVec.ofNat 32 (drwN (nI j))).toNat
      rw [BitVec.toNat_ofNat]
      exact (Nat.mod_eq_of_lt (by omega)).symm
    rw [e, nI_toInt he, hn]
    omega
  rw [ma_eq, Int64.toInt_toInt32, hr, hd, Int.bmod_eq_of_le (by omega) (by omega)]
def turN (f : Nat → Int32) : Nat → Int32 := upd (upd f 193 (drwI (f 193))) (96 + drwN (f 193) / 65536 % 96) (nI (drwN (f 193) / 65536 / 96 % 10))
def rno1 (e : mD) (m nw ah u : Nat) : mD := tA (ntD e m nw ah u) nw (turN (gA e nw))
def rnoL (m nw ah : Nat) : Nat → mD → Nat → mD
  | 0, e, _ => e
  | n + 1, e, u => rnoL m nw ah n (rno1 e m nw ah u) (ntN u + 1)
def lyE (e : mD) (nw od fd : Nat) : Nat → Int32 := layL (gA e od) (gA e nw 192) (gA e nw) (fun k => gA e nw (96 + k)) 6 0 (gA e fd)
def rnoR (e : mD) (nw od fd : Nat) (n : Int32) : Int32 := if wthn n 1 40 then rlaI (lyE e nw od fd) (gA e nw) else -1000001
def rnoD (d e : mD) (nw od fd : Nat) (n : Int32) : mD := if wthn n 1 40 then tA e fd (lyE e nw od fd) else d
theorem turN_193 (f : Nat → Int32) : turN f 193 = drwI (f 193) := by
  unfold turN upd
  rw [if_neg (by have := Nat.mod_lt (drwN (f 193) / 65536) (show 0 < 96 by decide); omega), if_pos rfl]
theorem rno1_nw (e : mD) (m nw ah u : Nat) : gA (rno1 e m nw ah u) nw = turN (gA e nw) := by unfold rno1; rw [gA_tA, if_pos rfl]
theorem rno1_u (e : mD) (m nw ah u : Nat) : gI (rno1 e m nw ah u) 299 m = nI (ntN u + 1) := gI_ntu _ _ _ _ _
theorem drw_pos (v : Int32) : 0 ≤ drwI v := by
  rw [(drw_nI v).1]; exact Int32.not_lt.mp (nI_pos (drw_nI v).2)
theorem w140 {n : Int32} (h : wthn n 1 40) : n = nI (tN n) ∧ tN n ≤ 40 := by
  have h0 : wthn n 0 40 := ⟨by rw [ma_le, show (0 : Int32).toInt = 0 by decide]; have := h.1; rw [ma_le, show (1 : Int32).toInt = 1 by decide] at this; omega, h.2⟩
  exact wth_nI 40 (by decide) h0
def cpJ (g h : Nat → Int64) (off i : Nat) : Nat → Int64 := fun k => if off ≤ k ∧ k < off + i then h (k - off) else g k
theorem cpJ_0 (g h : Nat → Int64) (off : Nat) : cpJ g h off 0 = g := by funext k; unfold cpJ; rw [if_neg (by omega)]
theorem cpJ_s (g h : Nat → Int64) (off i : Nat) : vp_updL (cpJ g h off i) (off + i) (h i) = cpJ g h off (i + 1) := by
  funext k
  unfold vp_updL cpJ
  by_cases h1 : k = off + i
  · subst h1; rw [if_pos rfl, if_pos (by omega), Nat.add_sub_cancel_left]
  · rw [if_neg h1]
    by_cases h2 : off ≤ k ∧ k < off + i
    · rw [if_pos h2, if_pos (by omega)]
    · rw [if_neg h2, if_neg (by omega)]
theorem cpJ_s0 (g h : Nat → Int64) (i : Nat) : vp_updL (cpJ g h 0 i) i (h i) = cpJ g h 0 (i + 1) := by
  have := cpJ_s g h 0 i; rwa [Nat.zero_add] at this
theorem cpJ_in0 (g h : Nat → Int64) (i k : Nat) (hk : k < i) : cpJ g h 0 i k = h k := by unfold cpJ; rw [if_pos (by omega), Nat.sub_zero]
theorem tJ_selfE {d : mD} {a : Nat} {f : Nat → Int64} (h : gJ d a = f) : tJ d a f = d := by subst h; exact tJ_self _ _
def whyI (la sz lane i n : Int32) : Int32 := if 0 ≤ la then (if la = lane then (if i < 0 ∨ ¬ n ≤ sz - i then -1000013 else 0) else -1000012) else -1000011
theorem why_0 {la sz lane i n : Int32} (h : 0 ≤ whyI la sz lane i n) : whyI la sz lane i n = 0 ∧ 0 ≤ la ∧ la = lane ∧ 0 ≤ i ∧ n ≤ sz - i := by
  unfold whyI at *
  split at h
  · next h1 =>
    split at h
    · next h2 =>
      split at h
      · exact absurd h (by decide)
      · next h3 =>
        rw [if_pos h1, if_pos h2, if_neg h3]
        refine ⟨rfl, h1, h2, Int32.not_lt.mp (fun q => h3 (Or.inl q)), Decidable.byContradiction (fun q => h3 (Or.inr q))⟩
    · exact absurd h (by decide)
  · exact absurd h (by decide)
theorem why_nI {z : Nat} {i n : Int32} (hz : z ≤ 24) (h1 : 0 ≤ i) (h2 : 0 ≤ n) (h3 : n ≤ nI z - i) : i = nI (tN i) ∧ n = nI (tN n) ∧ tN i + tN n ≤ z := by
  refine spn_nI hz ⟨h1, h2, ?_, h3⟩
  rw [ma_le] at *
  rw [Int32.toInt_sub, nI_toInt (by omega)] at h3
  rw [nI_toInt (by omega)]
  have := ma_rng i
  rw [show (0 : Int32).toInt = 0 by decide] at h1 h2
  rw [Int.bmod_eq_of_le (by omega) (by omega)] at h3
  omega
theorem lgc_le (x y : Int64) : lg_cmp x y ≤ 0 ↔ x ≤ y := by
  rw [← Int32.not_lt, lgc_gt, Int64.not_lt]
theorem lsum_nI {z : Nat} {i n : Int32} (hz : z ≤ 24) (h1 : 0 ≤ i) (h2 : 0 ≤ n) (h3 : i.toInt64 + n.toInt64 ≤ (nI z).toInt64) : i = nI (tN i) ∧ n = nI (tN n) ∧ tN i + tN n ≤ z := by
  obtain ⟨a, ha, rfl⟩ := nI_of (Int32.not_lt.mpr h1)
  obtain ⟨b, hb, rfl⟩ := nI_of (Int32.not_lt.mpr h2)
  have ea : tN (nI a) = a := nI_clamp ha
  have eb : tN (nI b) = b := nI_clamp hb
  rw [ea, eb]
  rw [Int64.le_iff_toInt_le, Int64.toInt_add, Int32.toInt_toInt64, Int32.toInt_toInt64, Int32.toInt_toInt64, nI_toInt ha, nI_toInt hb, nI_toInt (by omega), Int.bmod_eq_of_le (by omega) (by omega)] at h3
  exact ⟨rfl, rfl, by omega⟩
theorem w16 {n : Int32} (h : wthn n 1 6) : n = nI (tN n) ∧ 1 ≤ tN n ∧ tN n ≤ 6 ∧ 0 ≤ n := by
  have h1 : 0 ≤ n := by rw [ma_le, show (0 : Int32).toInt = 0 by decide]; have := h.1; rw [ma_le, show (1 : Int32).toInt = 1 by decide] at this; omega
  have h0 : wthn n 0 6 := ⟨h1, h.2⟩
  have h2 := wth_nI 6 (by decide) h0
  refine ⟨h2.1, ?_, h2.2, h1⟩
  have h3 := h.1
  rw [h2.1] at h3
  exact (nI_leI (a := 1) (by decide) (by omega)).mp h3
def rsfD (d : mD) (ln sz it : Nat) (v la n : Int32) : mD := if sheP v la n ∧ 0 ≤ n then tJ (tA (tA d ln (upd (gA d ln) (tN v) la)) sz (upd (gA d sz) (tN v) n)) it (cpJ (gJ d it) (fun _ => 0) (24 * tN v) 24) else d
def rdrR (d : mD) (ln sz : Nat) (v : Int32) : Int32 := if wthn v 0 3 then (if 0 ≤ gA d ln (tN v) then gA d sz (tN v) else -1000011) else -1000001
def rdrD (d : mD) (ln : Nat) (v : Int32) : mD := if wthn v 0 3 ∧ 0 ≤ gA d ln (tN v) then tA d ln (upd (gA d ln) (tN v) (-1)) else d
def whS (d : mD) (ln sz : Nat) (v la i n : Int32) : Int32 := whyI (gA d ln (tN v)) (gA d sz (tN v)) la i n
def ritR (d : mD) (ln sz : Nat) (v la i : Int32) : Int32 := if wthn v 0 3 ∧ wthn la 0 3 then (if 0 ≤ whS d ln sz v la i 1 then 1 else whS d ln sz v la i 1) else -1000001
def ritD (d : mD) (ln sz it : Nat) (v la i : Int32) (y : Int64) : mD := if (wthn v 0 3 ∧ wthn la 0 3) ∧ 0 ≤ whS d ln sz v la i 1 then tJ d it (vp_updL (gJ d it) (24 * tN v + tN i) (cutL la y)) else d
abbrev rcB (d : mD) (ln : Nat) (u v : Int32) : Prop := gA d ln (tN u) < 0 ∨ gA d ln (tN v) < 0
abbrev rcP (d : mD) (sz : Nat) (u i v j n : Int32) : Prop := 0 ≤ n ∧ 0 ≤ i ∧ 0 ≤ j ∧ i.toInt64 + n.toInt64 ≤ (gA d sz (tN u)).toInt64 ∧ j.toInt64 + n.toInt64 ≤ (gA d sz (tN v)).toInt64
def rcyR (d : mD) (ln sz : Nat) (u i v j n : Int32) : Int32 := if wthn u 0 3 ∧ wthn v 0 3 then (if rcB d ln u v then -1000011 else if gA d ln (tN u) = gA d ln (tN v) then (if rcP d sz u i v j n then n else -1000013) else -1000012) else -1000001
def rcyD (d : mD) (ln sz it mv : Nat) (u i v j n : Int32) : mD := if (wthn u 0 3 ∧ wthn v 0 3) ∧ ¬ rcB d ln u v ∧ gA d ln (tN u) = gA d ln (tN v) ∧ rcP d sz u i v j n then tJ (tJ d mv (cpJ (gJ d mv) (fun k => gJ d it (24 * tN u + tN i + k)) 0 (tN n))) it (cpJ (gJ d it) (fun k => gJ d it (24 * tN u + tN i + k)) (24 * tN v + tN j) (tN n)) else d
def rfmH (o f : Nat → Int32) (b : Nat) : Int64 := (rbE o (f 192) f (fun k => f (96 + k)) (nI b)).toInt64
def rfmR (d : mD) (ln sz : Nat) (n v la i : Int32) : Int32 := if filP n v la then (if 0 ≤ whS d ln sz v la i n then n else whS d ln sz v la i n) else -1000001
def rfmD (d : mD) (nw od ln sz it : Nat) (n v la i : Int32) : mD := if filP n v la ∧ 0 ≤ whS d ln sz v la i n then tJ d it (cpJ (gJ d it) (rfmH (gA d od) (gA d nw)) (24 * tN v + tN i) (tN n)) else d
def rfuI (o f : Nat → Int32) (q : Nat → Int64) (k : Int32) : Nat → Nat → Int32 → Int32
  | 0, _, a => a
  | n + 1, b, a => if a = 0 then a else rfuI o f q k n (b + 1) (if (rbE o k f (fun j => f (96 + j)) (nI b)).toInt64 = q b then 1 else 0)
def rfuL (o f : Nat → Int32) (q : Nat → Int64) (m : Nat) : Nat → Nat → Int32 → Int32
  | 0, _, s => s
  | n + 1, k, s => rfuL o f q m n (k + 1) (s ||| if rfuI o f q (nI k) m 0 1 = 0 then 0 else (1 : Int32) <<< (nI k &&& 31))
def rfuR (d : mD) (nw od ln sz it : Nat) (v la i n : Int32) : Int32 := if fouP v la n then (if 0 ≤ whS d ln sz v la i n then rfuL (gA d od) (gA d nw) (fun b => gJ d it (24 * tN v + tN i + b)) (tN n) 5 0 0 else whS d ln sz v la i n) else -1000001
theorem c_X9_noise {l : Launch} {G : mG} {Z : mZ} {d : mD} {m nw od fd tp rd ah kp ka ln sz it mv : Nat} {u : Nat} {n : Int32} (hm : mdS Z m nw od fd tp rd ah kp ka ln sz it mv) (hu : gI d 299 m = nI u) (hu8 : u ≤ 8) (hdr : 0 ≤ gA d nw 193) : CtI l G yX9_noise cX9_noise 6 .int 8 187 [.ref m, .int n] Z d (rnoR (rnoL m nw ah (tN n) d u) nw od fd n) (rnoD d (rnoL m nw ah (tN n) d u) nw od fd n) := by
  refine enterI RX9 4 [some (.ref m), some (.int n), none, none, none, none] (by decide) rfl (rfl) rfl rfl (fun X hR => ?_)
  refine il1 (pc := 0) dX9_noise_0 ?_
  refine g_i2l (pc := 1) dX9_noise_1 ?_
  refine g_lconst (pc := 2) dX9_noise_2 kl1 ?_
  refine g_ldc2 (pc := 3) dX9_noise_3 wk_X9_201 ?_
  refine cl_X9_70 (pc := 6) (c_X9_in) (by decide) ⟨Nat.zero_le _, Nat.zero_le _⟩ (Nat.le_of_ble_eq_true rfl) dX9_noise_6 ?_
  rw [inI n (1) 40 (by decide) (by decide)]
  refine g_ifne 15 (pc := 9) dX9_noise_9 (by decide) (fun c9 => ?_) (fun c9 => ?_)
  · skip
    (try simp only [mB_eq0, Decidable.not_not] at c9)
    have hn9 := w140 c9
    refine g_iconst (pc := 15) dX9_noise_15 kc0 ?_
    refine is2 (pc := 16) dX9_noise_16 rfl ?_
    have L17 : ∀ (n9 i : Nat) (e : mD) (w : Nat), i + n9 = (tN n) → (gI e 299 m = nI w) → (w ≤ 8) → (0 ≤ gA e nw 193) → (rnoL m nw ah n9 e w = rnoL m nw ah (tN n) d u) → mGo l G (mRm 8 187) X RX9 cX9_noise 6 0 0 Z 17 [some (.ref m), some (.int n), some (.int (nI i)), none, none, none] [] e := by
      intro n9; induction n9 with
      | zero =>
        intro i e w hin17 hue hue8 hde hF
        refine il2 (pc := 17) dX9_noise_17 ?_
        refine il1 (pc := 18) dX9_noise_18 ?_
        refine g_icmpge 98 (pc := 19) dX9_noise_19 (by decide) (fun c19 => ?_) (fun c19 => absurd (by rw [hn9.1]; exact nI_le (by omega) (by omega)) c19)
        refine al0 (pc := 98) dX9_noise_98 ?_
        refine cl_X9_156 (pc := 99) (c_X9_lacks hm) hm.o9 (by decide) ⟨Nat.zero_le _, Nat.zero_le _⟩ (Nat.le_of_ble_eq_true rfl) dX9_noise_99 ?_
        exact retI (pc := 102) hR dX9_noise_102 (by rw [rnoR, if_pos c9, ← hF]; rfl) (by rw [rnoD, if_pos c9, ← hF]; rfl)
      | succ n9 ih17 =>
        intro i e w hin17 hue hue8 hde hF
        refine il2 (pc := 17) dX9_noise_17 ?_
        refine il1 (pc := 18) dX9_noise_18 ?_
        refine g_icmpge 98 (pc := 19) dX9_noise_19 (by decide) (fun c19 => absurd c19 (by rw [hn9.1]; exact nI_ge (by omega) (by omega))) (fun c19 => ?_)
        refine al0 (pc := 22) dX9_noise_22 ?_
        refine cl_X9_194 (pc := 23) (c_X9_notes hm hue hue8) hm.o9 (by decide) ⟨Nat.zero_le _, Nat.zero_le _⟩ (Nat.le_of_ble_eq_true rfl) dX9_noise_23 ?_
        refine al0 (pc := 26) dX9_noise_26 ?_
        refine gf_X9_7 (pc := 27) hm.o9 hm.r288 dX9_noise_27 ?_
        refine g_sipush (pc := 30) dX9_noise_30 ks193 ?_
        refine g_iald (pc := 33) 193 hm.a_nw (by decide) (rfl) (by decide) dX9_noise_33 ?_
        rw [gA_nt _ _ _ _ _ hm.n_nw_ah]
        refine g_i2l (pc := 34) dX9_noise_34 ?_
        refine g_ldc2 (pc := 35) dX9_noise_35 wk_X9_203 ?_
        refine g_lmul (pc := 38) dX9_noise_38 ?_
        refine g_ldc2 (pc := 39) dX9_noise_39 wk_X9_205 ?_
        refine g_ladd (pc := 42) dX9_noise_42 ?_
        refine g_ldc2 (pc := 43) dX9_noise_43 wk_X9_207 ?_
        refine g_lrem (pc := 46) dX9_noise_46 (by decide) ?_
        refine ls3 (pc := 47) dX9_noise_47 rfl ?_
        refine al0 (pc := 48) dX9_noise_48 ?_
        refine gf_X9_7 (pc := 49) hm.o9 hm.r288 dX9_noise_49 ?_
        refine g_sipush (pc := 52) dX9_noise_52 ks193 ?_
        refine ll3 (pc := 55) dX9_noise_55 ?_
        refine g_l2i (pc := 56) dX9_noise_56 ?_
        refine g_iast (pc := 57) 193 hm.a_nw (by decide) (rfl) (by decide) dX9_noise_57 ?_
        rw [gA_nt _ _ _ _ _ hm.n_nw_ah, drw_long hde]
        refine al0 (pc := 58) dX9_noise_58 ?_
        refine gf_X9_7 (pc := 59) hm.o9 hm.r288 dX9_noise_59 ?_
        refine g_sipush (pc := 62) dX9_noise_62 ks193 ?_
        refine g_iald (pc := 65) 193 hm.a_nw (by decide) (rfl) (by decide) dX9_noise_65 ?_
        rw [gA_tA, if_pos rfl, show upd (gA e nw) 193 (drwI (gA e nw 193)) 193 = nI (drwN (gA e nw 193)) from by unfold upd; rw [if_pos rfl]; exact (drw_nI _).1]
        refine g_ldc (pc := 66) dX9_noise_66 wk_X9_209 ?_
        refine g_idiv (pc := 68) dX9_noise_68 (by decide) ?_
        rw [show nI (drwN (gA e nw 193)) / 65536 = nI (drwN (gA e nw 193) / 65536) from pk_div (drw_nI _).2 (by decide) (by decide)]
        have hz9 := (drw_nI (gA e nw 193)).2
        refine is5 (pc := 69) dX9_noise_69 rfl ?_
        refine al0 (pc := 71) dX9_noise_71 ?_
        refine gf_X9_7 (pc := 72) hm.o9 hm.r288 dX9_noise_72 ?_
        refine g_bipush (pc := 75) dX9_noise_75 kb96 ?_
        refine il5 (pc := 77) dX9_noise_77 ?_
        refine g_bipush (pc := 79) dX9_noise_79 kb96 ?_
        refine g_irem (pc := 81) dX9_noise_81 (by decide) ?_
        refine g_iadd (pc := 82) dX9_noise_82 ?_
        refine il5 (pc := 83) dX9_noise_83 ?_
        refine g_bipush (pc := 85) dX9_noise_85 kb96 ?_
        refine g_idiv (pc := 87) dX9_noise_87 (by decide) ?_
        refine g_bipush (pc := 88) dX9_noise_88 kb10 ?_
        refine g_irem (pc := 90) dX9_noise_90 (by decide) ?_
        rw [show nI (drwN (gA e nw 193) / 65536) / 96 = nI (drwN (gA e nw 193) / 65536 / 96) from pk_div (by omega) (by decide) (by decide), show mRem (nI (drwN (gA e nw 193) / 65536 / 96)) 10 = nI (drwN (gA e nw 193) / 65536 / 96 % 10) from pk_rem (by omega) (by decide) (by decide)]
        refine g_iast (pc := 91) (96 + drwN (gA e nw 193) / 65536 % 96) hm.a_nw (by omega) (by rw [show mRem (nI (drwN (gA e nw 193) / 65536)) 96 = nI (drwN (gA e nw 193) / 65536 % 96) from pk_rem (by omega) (by decide) (by decide), show (96 : Int32) = nI 96 from rfl, nI_add]) (by decide) dX9_noise_91 ?_
        rw [gA_tA, if_pos rfl, tA_tA, ← turN, ← rno1]
        refine ic2 (pc := 92) dX9_noise_92 kc1 rfl ?_
        refine g_goto 17 (pc := 95) dX9_noise_95 (by decide) ?_
        rw [nI_1]
        refine dr3 ?_
        refine dr5 ?_
        exact ih17 (i + 1) _ (ntN w + 1) (by omega) (rno1_u _ _ _ _ _) (ntN_le hue8) (by rw [rno1_nw, turN_193]; exact drw_pos _) hF
    exact L17 (tN n) 0 d u (by omega) hu hu8 hdr rfl
  · skip
    (try simp only [mB_eq0, Decidable.not_not] at c9)
    refine g_ldc (pc := 12) dX9_noise_12 wk_X9_145 ?_
    exact retI (pc := 14) hR dX9_noise_14 (by rw [rnoR, if_neg]; intro h9; simp [h9] at *) (by rw [rnoD, if_neg]; intro h9; simp [h9] at *)
theorem c_X9_isSheet {l : Launch} {G : mG} {Z : mZ} {d : mD} {v : Int32} : CtI l G yX9_isSheet cX9_isSheet 1 .boolean 1 25 [.int v] Z d (mB (wthn v 0 3)) d := by
  refine enterI RX9 0 [some (.int v)] (by decide) rfl (narB _) rfl rfl (fun X hR => ?_)
  refine il0 (pc := 0) dX9_isSheet_0 ?_
  refine g_i2l (pc := 1) dX9_isSheet_1 ?_
  refine g_lconst (pc := 2) dX9_isSheet_2 kl0 ?_
  refine g_ldc2 (pc := 3) dX9_isSheet_3 wk_X9_197 ?_
  refine cl_X9_70 (pc := 6) (c_X9_in) (by decide) ⟨Nat.zero_le _, Nat.zero_le _⟩ (Nat.le_of_ble_eq_true rfl) dX9_isSheet_6 ?_
  rw [inI v 0 3 (by decide) (by decide)]
  exact retI (pc := 9) hR dX9_isSheet_9 (rfl) (rfl)
theorem c_X9_cut {l : Launch} {G : mG} {Z : mZ} {d : mD} {v : Int64} {la : Int32} : CtL l G yX9_cut cX9_cut 3 0 0 [.long v, .int la] Z d (cutL la v) d := by
  refine enterL RX9 0 [some (.long v), none, some (.int la)] (by decide) rfl rfl rfl (fun X hR => ?_)
  refine il2 (pc := 0) dX9_cut_0 ?_
  refine g_ifne 11 (pc := 1) dX9_cut_1 (by decide) (fun c1 => ?_) (fun c1 => ?_)
  · skip
    refine il2 (pc := 11) dX9_cut_11 ?_
    refine g_iconst (pc := 12) dX9_cut_12 kc1 ?_
    refine g_icmpne 23 (pc := 13) dX9_cut_13 (by decide) (fun c13 => ?_) (fun c13 => ?_)
    · skip
      refine il2 (pc := 23) dX9_cut_23 ?_
      refine g_iconst (pc := 24) dX9_cut_24 kc2 ?_
      refine g_icmpne 34 (pc := 25) dX9_cut_25 (by decide) (fun c25 => ?_) (fun c25 => ?_)
      · skip
        refine ll0 (pc := 34) dX9_cut_34 ?_
        exact retL (pc := 35) hR dX9_cut_35 (by simp [cutL, c1, c13, c25]) (rfl)
      · skip
        refine ll0 (pc := 28) dX9_cut_28 ?_
        refine g_l2i (pc := 29) dX9_cut_29 ?_
        refine g_i2l (pc := 30) dX9_cut_30 ?_
        refine g_goto 35 (pc := 31) dX9_cut_31 (by decide) ?_
        exact retL (pc := 35) hR dX9_cut_35 (by simp [cutL, c1, c13, c25]) (rfl)
    · skip
      refine ll0 (pc := 16) dX9_cut_16 ?_
      refine g_l2i (pc := 17) dX9_cut_17 ?_
      refine g_i2s (pc := 18) dX9_cut_18 ?_
      refine g_i2l (pc := 19) dX9_cut_19 ?_
      refine g_goto 35 (pc := 20) dX9_cut_20 (by decide) ?_
      exact retL (pc := 35) hR dX9_cut_35 (by simp [cutL, c1, c13]) (rfl)
  · skip
    refine ll0 (pc := 4) dX9_cut_4 ?_
    refine g_l2i (pc := 5) dX9_cut_5 ?_
    refine g_i2b (pc := 6) dX9_cut_6 ?_
    refine g_i2l (pc := 7) dX9_cut_7 ?_
    refine g_goto 35 (pc := 8) dX9_cut_8 (by decide) ?_
    exact retL (pc := 35) hR dX9_cut_35 (by simp [cutL, c1]) (rfl)
theorem c_X9_sheet {l : Launch} {G : mG} {Z : mZ} {d : mD} {m nw od fd tp rd ah kp ka ln sz it mv : Nat} {v la n : Int32} (hm : mdS Z m nw od fd tp rd ah kp ka ln sz it mv) : CtI l G yX9_sheet cX9_sheet 5 .int 2 45 [.ref m, .int v, .int la, .int n] Z d (sheR v la n) (rsfD d ln sz it v la n) := by
  refine enterI RX9 1 [some (.ref m), some (.int v), some (.int la), some (.int n), none] (by decide) rfl (rfl) rfl rfl (fun X hR => ?_)
  refine il1 (pc := 0) dX9_sheet_0 ?_
  refine cl_X9_227 (pc := 1) (c_X9_isSheet) (by decide) ⟨Nat.zero_le _, Nat.zero_le _⟩ (Nat.le_of_ble_eq_true rfl) dX9_sheet_1 ?_
  refine g_ifeq 25 (pc := 4) dX9_sheet_4 (by decide) (fun c4 => ?_) (fun c4 => ?_)
  · skip
    (try simp only [mB_eq0, Decidable.not_not] at c4)
    refine g_ldc (pc := 25) dX9_sheet_25 wk_X9_145 ?_
    exact retI (pc := 27) hR dX9_sheet_27 (by rw [sheR, if_neg]; intro h9; simp [h9] at *) (by rw [rsfD, if_neg]; intro h9; simp [h9.1] at *)
  · skip
    (try simp only [mB_eq0, Decidable.not_not] at c4)
    have hv9 := wth_nI 3 (by decide) c4
    refine il2 (pc := 7) dX9_sheet_7 ?_
    refine g_i2l (pc := 8) dX9_sheet_8 ?_
    refine g_lconst (pc := 9) dX9_sheet_9 kl0 ?_
    refine g_ldc2 (pc := 10) dX9_sheet_10 wk_X9_197 ?_
    refine cl_X9_70 (pc := 13) (c_X9_in) (by decide) ⟨Nat.zero_le _, Nat.zero_le _⟩ (Nat.le_of_ble_eq_true rfl) dX9_sheet_13 ?_
    rw [inI la (0) 3 (by decide) (by decide)]
    refine g_ifeq 25 (pc := 16) dX9_sheet_16 (by decide) (fun c16 => ?_) (fun c16 => ?_)
    · skip
      (try simp only [mB_eq0, Decidable.not_not] at c16)
      refine g_ldc (pc := 25) dX9_sheet_25 wk_X9_145 ?_
      exact retI (pc := 27) hR dX9_sheet_27 (by rw [sheR, if_neg]; intro h9; simp [h9] at *) (by rw [rsfD, if_neg]; intro h9; simp [h9.1] at *)
    · skip
      (try simp only [mB_eq0, Decidable.not_not] at c16)
      refine il3 (pc := 19) dX9_sheet_19 ?_
      refine g_bipush (pc := 20) dX9_sheet_20 kb24 ?_
      refine g_icmple 28 (pc := 22) dX9_sheet_22 (by decide) (fun c22 => ?_) (fun c22 => ?_)
      · skip
        refine il3 (pc := 28) dX9_sheet_28 ?_
        refine g_ifge 35 (pc := 29) dX9_sheet_29 (by decide) (fun c29 => ?_) (fun c29 => ?_)
        · skip
          refine al0 (pc := 35) dX9_sheet_35 ?_
          refine gf_X9_38 (pc := 36) hm.o9 hm.r303 dX9_sheet_36 ?_
          refine il1 (pc := 39) dX9_sheet_39 ?_
          refine il2 (pc := 40) dX9_sheet_40 ?_
          refine g_iast (pc := 41) (tN v) hm.a_ln (by omega) (hv9.1) (by decide) dX9_sheet_41 ?_
          refine al0 (pc := 42) dX9_sheet_42 ?_
          refine gf_X9_41 (pc := 43) hm.o9 hm.r304 dX9_sheet_43 ?_
          refine il1 (pc := 46) dX9_sheet_46 ?_
          refine il3 (pc := 47) dX9_sheet_47 ?_
          refine g_iast (pc := 48) (tN v) hm.a_sz (by omega) (hv9.1) (by decide) dX9_sheet_48 ?_
          rw [gA_tA, if_neg hm.n_sz_ln]
          refine g_iconst (pc := 49) dX9_sheet_49 kc0 ?_
          refine is4 (pc := 50) dX9_sheet_50 rfl ?_
          have L52 : ∀ (n9 i : Nat), i + n9 = 24 → mGo l G (mRm 2 45) X RX9 cX9_sheet 5 0 0 Z 52 [some (.ref m), some (.int v), some (.int la), some (.int n), some (.int (nI i))] [] (tJ (tA (tA d ln (upd (gA d ln) (tN v) la)) sz (upd (gA d sz) (tN v) n)) it (cpJ (gJ d it) (fun _ => 0) (24 * tN v) i)) := by
            intro n9; induction n9 with
            | zero =>
              intro i  hin52 
              obtain rfl : i = 24 := by omega
              refine il4 (pc := 52) dX9_sheet_52 ?_
              refine g_bipush (pc := 54) dX9_sheet_54 kb24 ?_
              refine g_icmpge 78 (pc := 56) dX9_sheet_56 (by decide) (fun c56 => ?_) (fun c56 => absurd (nI_le (a := 24) (by omega) (by omega)) c56)
              refine il3 (pc := 78) dX9_sheet_78 ?_
              exact retI (pc := 79) hR dX9_sheet_79 (by rw [sheR, if_pos ⟨⟨c4, c16⟩, c22⟩, if_pos c29]) (by rw [rsfD, if_pos ⟨⟨⟨c4, c16⟩, c22⟩, c29⟩])
            | succ n9 ih52 =>
              intro i  hin52 
              refine il4 (pc := 52) dX9_sheet_52 ?_
              refine g_bipush (pc := 54) dX9_sheet_54 kb24 ?_
              refine g_icmpge 78 (pc := 56) dX9_sheet_56 (by decide) (fun c56 => absurd c56 (nI_ge (b := 24) (by omega) (by omega))) (fun c56 => ?_)
              refine al0 (pc := 59) dX9_sheet_59 ?_
              refine gf_X9_44 (pc := 60) hm.o9 hm.r305 dX9_sheet_60 ?_
              refine g_bipush (pc := 63) dX9_sheet_63 kb24 ?_
              refine il1 (pc := 65) dX9_sheet_65 ?_
              refine g_imul (pc := 66) dX9_sheet_66 ?_
              refine il4 (pc := 67) dX9_sheet_67 ?_
              refine g_iadd (pc := 69) dX9_sheet_69 ?_
              refine g_lconst (pc := 70) dX9_sheet_70 kl0 ?_
              refine g_last (pc := 71) (24 * tN v + i) hm.a_it (by omega) (by rw [hv9.1, show (24 : Int32) = nI 24 from rfl, pk_mul, nI_add, ← hv9.1]) (by decide) dX9_sheet_71 ?_
              rw [gJ_tJ, if_pos rfl, tJ_tJ, cpJ_s (gJ d it) (fun _ => 0) (24 * tN v) i]
              refine ic4 (pc := 72) dX9_sheet_72 kc1 rfl ?_
              refine g_goto 52 (pc := 75) dX9_sheet_75 (by decide) ?_
              rw [nI_1]
              exact ih52 (i + 1) (by omega)
          have q9 := L52 24 0 (by omega)
          rw [cpJ_0, show tJ (tA (tA d ln (upd (gA d ln) (tN v) la)) sz (upd (gA d sz) (tN v) n)) it (gJ d it) = (tA (tA d ln (upd (gA d ln) (tN v) la)) sz (upd (gA d sz) (tN v) n)) from tJ_selfE rfl] at q9
          exact q9
        · skip
          refine g_ldc (pc := 32) dX9_sheet_32 wk_X9_230 ?_
          exact retI (pc := 34) hR dX9_sheet_34 (by rw [sheR, if_pos ⟨⟨c4, c16⟩, c22⟩, if_neg c29]) (by rw [rsfD, if_neg]; intro h9; exact c29 h9.2)
      · skip
        refine g_ldc (pc := 25) dX9_sheet_25 wk_X9_145 ?_
        exact retI (pc := 27) hR dX9_sheet_27 (by rw [sheR, if_neg]; intro h9; simp [h9] at *) (by rw [rsfD, if_neg]; intro h9; simp [h9.1] at *)
theorem c_X9_drop {l : Launch} {G : mG} {Z : mZ} {d : mD} {m nw od fd tp rd ah kp ka ln sz it mv : Nat} {v : Int32} (hm : mdS Z m nw od fd tp rd ah kp ka ln sz it mv) : CtI l G yX9_drop cX9_drop 2 .int 2 45 [.ref m, .int v] Z d (rdrR d ln sz v) (rdrD d ln v) := by
  refine enterI RX9 0 [some (.ref m), some (.int v)] (by decide) rfl (rfl) rfl rfl (fun X hR => ?_)
  refine il1 (pc := 0) dX9_drop_0 ?_
  refine cl_X9_227 (pc := 1) (c_X9_isSheet) (by decide) ⟨Nat.zero_le _, Nat.zero_le _⟩ (Nat.le_of_ble_eq_true rfl) dX9_drop_1 ?_
  refine g_ifne 10 (pc := 4) dX9_drop_4 (by decide) (fun c4 => ?_) (fun c4 => ?_)
  · skip
    (try simp only [mB_eq0, Decidable.not_not] at c4)
    have hv9 := wth_nI 3 (by decide) c4
    refine al0 (pc := 10) dX9_drop_10 ?_
    refine gf_X9_38 (pc := 11) hm.o9 hm.r303 dX9_drop_11 ?_
    refine il1 (pc := 14) dX9_drop_14 ?_
    refine g_iald (pc := 15) (tN v) hm.a_ln (by omega) (hv9.1) (by decide) dX9_drop_15 ?_
    refine g_ifge 22 (pc := 16) dX9_drop_16 (by decide) (fun c16 => ?_) (fun c16 => ?_)
    · skip
      refine al0 (pc := 22) dX9_drop_22 ?_
      refine gf_X9_38 (pc := 23) hm.o9 hm.r303 dX9_drop_23 ?_
      refine il1 (pc := 26) dX9_drop_26 ?_
      refine g_iconst (pc := 27) dX9_drop_27 kcm1 ?_
      refine g_iast (pc := 28) (tN v) hm.a_ln (by omega) (hv9.1) (by decide) dX9_drop_28 ?_
      refine al0 (pc := 29) dX9_drop_29 ?_
      refine gf_X9_41 (pc := 30) hm.o9 hm.r304 dX9_drop_30 ?_
      refine il1 (pc := 33) dX9_drop_33 ?_
      refine g_iald (pc := 34) (tN v) hm.a_sz (by omega) (hv9.1) (by decide) dX9_drop_34 ?_
      rw [gA_tA, if_neg hm.n_sz_ln]
      exact retI (pc := 35) hR dX9_drop_35 (by rw [rdrR, if_pos c4, if_pos c16]) (by rw [rdrD, if_pos ⟨c4, c16⟩])
    · skip
      refine g_ldc (pc := 19) dX9_drop_19 wk_X9_231 ?_
      exact retI (pc := 21) hR dX9_drop_21 (by rw [rdrR, if_pos c4, if_neg c16]) (by rw [rdrD, if_neg]; intro h9; exact c16 h9.2)
  · skip
    (try simp only [mB_eq0, Decidable.not_not] at c4)
    refine g_ldc (pc := 7) dX9_drop_7 wk_X9_145 ?_
    exact retI (pc := 9) hR dX9_drop_9 (by rw [rdrR, if_neg]; intro h9; simp [h9] at *) (by rw [rdrD, if_neg]; intro h9; exact c4 h9.1)
theorem c_X9_why {l : Launch} {G : mG} {Z : mZ} {d : mD} {m nw od fd tp rd ah kp ka ln sz it mv : Nat} {v la i n : Int32} (hm : mdS Z m nw od fd tp rd ah kp ka ln sz it mv) (hv : wthn v 0 3) : CtI l G yX9_why cX9_why 5 .int 0 0 [.ref m, .int v, .int la, .int i, .int n] Z d (whS d ln sz v la i n) d := by
  have hv9 := wth_nI 3 (by decide) hv
  refine enterI RX9 0 [some (.ref m), some (.int v), some (.int la), some (.int i), some (.int n)] (by decide) rfl (rfl) rfl rfl (fun X hR => ?_)
  refine al0 (pc := 0) dX9_why_0 ?_
  refine gf_X9_38 (pc := 1) hm.o9 hm.r303 dX9_why_1 ?_
  refine il1 (pc := 4) dX9_why_4 ?_
  refine g_iald (pc := 5) (tN v) hm.a_ln (by omega) (hv9.1) (by decide) dX9_why_5 ?_
  refine g_ifge 12 (pc := 6) dX9_why_6 (by decide) (fun c6 => ?_) (fun c6 => ?_)
  · skip
    refine al0 (pc := 12) dX9_why_12 ?_
    refine gf_X9_38 (pc := 13) hm.o9 hm.r303 dX9_why_13 ?_
    refine il1 (pc := 16) dX9_why_16 ?_
    refine g_iald (pc := 17) (tN v) hm.a_ln (by omega) (hv9.1) (by decide) dX9_why_17 ?_
    refine il2 (pc := 18) dX9_why_18 ?_
    refine g_icmpeq 25 (pc := 19) dX9_why_19 (by decide) (fun c19 => ?_) (fun c19 => ?_)
    · skip
      refine il3 (pc := 25) dX9_why_25 ?_
      refine g_iflt 42 (pc := 26) dX9_why_26 (by decide) (fun c26 => ?_) (fun c26 => ?_)
      · skip
        refine g_ldc (pc := 42) dX9_why_42 wk_X9_233 ?_
        refine g_goto 48 (pc := 44) dX9_why_44 (by decide) ?_
        exact retI (pc := 48) hR dX9_why_48 (by rw [whS, whyI, if_pos c6, if_pos c19]; simp [c26]) (rfl)
      · skip
        refine il4 (pc := 29) dX9_why_29 ?_
        refine al0 (pc := 31) dX9_why_31 ?_
        refine gf_X9_41 (pc := 32) hm.o9 hm.r304 dX9_why_32 ?_
        refine il1 (pc := 35) dX9_why_35 ?_
        refine g_iald (pc := 36) (tN v) hm.a_sz (by omega) (hv9.1) (by decide) dX9_why_36 ?_
        refine il3 (pc := 37) dX9_why_37 ?_
        refine g_isub (pc := 38) dX9_why_38 ?_
        refine g_icmple 47 (pc := 39) dX9_why_39 (by decide) (fun c39 => ?_) (fun c39 => ?_)
        · skip
          refine g_iconst (pc := 47) dX9_why_47 kc0 ?_
          exact retI (pc := 48) hR dX9_why_48 (by rw [whS, whyI, if_pos c6, if_pos c19]; simp [c26, c39]) (rfl)
        · skip
          refine g_ldc (pc := 42) dX9_why_42 wk_X9_233 ?_
          refine g_goto 48 (pc := 44) dX9_why_44 (by decide) ?_
          exact retI (pc := 48) hR dX9_why_48 (by rw [whS, whyI, if_pos c6, if_pos c19]; simp [c26, c39]) (rfl)
    · skip
      refine g_ldc (pc := 22) dX9_why_22 wk_X9_232 ?_
      exact retI (pc := 24) hR dX9_why_24 (by rw [whS, whyI, if_pos c6, if_neg c19]) (rfl)
  · skip
    refine g_ldc (pc := 9) dX9_why_9 wk_X9_231 ?_
    exact retI (pc := 11) hR dX9_why_11 (by rw [whS, whyI, if_neg c6]) (rfl)
theorem c_X9_item {l : Launch} {G : mG} {Z : mZ} {d : mD} {m nw od fd tp rd ah kp ka ln sz it mv : Nat} {v la i : Int32} {y : Int64} (hm : mdS Z m nw od fd tp rd ah kp ka ln sz it mv) (hz : ∀ i, i < 4 → ∃ z, z ≤ 24 ∧ gA d sz i = nI z) : CtI l G yX9_item cX9_item 7 .int 2 45 [.ref m, .int v, .int la, .int i, .long y] Z d (ritR d ln sz v la i) (ritD d ln sz it v la i y) := by
  refine enterI RX9 1 [some (.ref m), some (.int v), some (.int la), some (.int i), some (.long y), none, none] (by decide) rfl (rfl) rfl rfl (fun X hR => ?_)
  refine il1 (pc := 0) dX9_item_0 ?_
  refine cl_X9_227 (pc := 1) (c_X9_isSheet) (by decide) ⟨Nat.zero_le _, Nat.zero_le _⟩ (Nat.le_of_ble_eq_true rfl) dX9_item_1 ?_
  refine g_ifeq 19 (pc := 4) dX9_item_4 (by decide) (fun c4 => ?_) (fun c4 => ?_)
  · skip
    (try simp only [mB_eq0, Decidable.not_not] at c4)
    refine g_ldc (pc := 19) dX9_item_19 wk_X9_145 ?_
    exact retI (pc := 21) hR dX9_item_21 (by rw [ritR, if_neg]; intro h9; simp [h9] at *) (by rw [ritD, if_neg]; intro h9; simp [h9.1] at *)
  · skip
    (try simp only [mB_eq0, Decidable.not_not] at c4)
    have hv9 := wth_nI 3 (by decide) c4
    refine il2 (pc := 7) dX9_item_7 ?_
    refine g_i2l (pc := 8) dX9_item_8 ?_
    refine g_lconst (pc := 9) dX9_item_9 kl0 ?_
    refine g_ldc2 (pc := 10) dX9_item_10 wk_X9_197 ?_
    refine cl_X9_70 (pc := 13) (c_X9_in) (by decide) ⟨Nat.zero_le _, Nat.zero_le _⟩ (Nat.le_of_ble_eq_true rfl) dX9_item_13 ?_
    rw [inI la (0) 3 (by decide) (by decide)]
    refine g_ifne 22 (pc := 16) dX9_item_16 (by decide) (fun c16 => ?_) (fun c16 => ?_)
    · skip
      (try simp only [mB_eq0, Decidable.not_not] at c16)
      refine al0 (pc := 22) dX9_item_22 ?_
      refine il1 (pc := 23) dX9_item_23 ?_
      refine il2 (pc := 24) dX9_item_24 ?_
      refine il3 (pc := 25) dX9_item_25 ?_
      refine g_iconst (pc := 26) dX9_item_26 kc1 ?_
      refine cl_X9_234 (pc := 27) (c_X9_why hm c4) hm.o9 (by decide) ⟨Nat.zero_le _, Nat.zero_le _⟩ (Nat.le_of_ble_eq_true rfl) dX9_item_27 ?_
      refine is6 (pc := 30) dX9_item_30 rfl ?_
      refine il6 (pc := 32) dX9_item_32 ?_
      refine g_ifge 40 (pc := 34) dX9_item_34 (by decide) (fun c34 => ?_) (fun c34 => ?_)
      · skip
        obtain ⟨z, hz1, hz2⟩ := hz (tN v) (by omega)
        have hw9 := why_0 c34
        rw [hz2] at hw9
        have hs9 := why_nI hz1 hw9.2.2.2.1 (by decide) hw9.2.2.2.2
        rw [show tN (1 : Int32) = 1 by decide] at hs9
        refine al0 (pc := 40) dX9_item_40 ?_
        refine gf_X9_44 (pc := 41) hm.o9 hm.r305 dX9_item_41 ?_
        refine g_bipush (pc := 44) dX9_item_44 kb24 ?_
        refine il1 (pc := 46) dX9_item_46 ?_
        refine g_imul (pc := 47) dX9_item_47 ?_
        refine il3 (pc := 48) dX9_item_48 ?_
        refine g_iadd (pc := 49) dX9_item_49 ?_
        refine ll4 (pc := 50) dX9_item_50 ?_
        refine il2 (pc := 52) dX9_item_52 ?_
        refine cl_X9_237 (pc := 53) (c_X9_cut) (by decide) ⟨Nat.zero_le _, Nat.zero_le _⟩ (Nat.le_of_ble_eq_true rfl) dX9_item_53 ?_
        refine g_last (pc := 56) (24 * tN v + tN i) hm.a_it (by omega) (by rw [show (24 : Int32) * v + i = nI 24 * nI (tN v) + nI (tN i) by rw [← hv9.1, ← hs9.1]; rfl, pk_mul, nI_add]) (by decide) dX9_item_56 ?_
        refine g_iconst (pc := 57) dX9_item_57 kc1 ?_
        exact retI (pc := 58) hR dX9_item_58 (by rw [ritR, if_pos ⟨c4, c16⟩, if_pos c34]) (by rw [ritD, if_pos ⟨⟨c4, c16⟩, c34⟩])
      · skip
        refine il6 (pc := 37) dX9_item_37 ?_
        exact retI (pc := 39) hR dX9_item_39 (by rw [ritR, if_pos ⟨c4, c16⟩, if_neg c34]) (by rw [ritD, if_neg]; intro h9; exact c34 h9.2)
    · skip
      (try simp only [mB_eq0, Decidable.not_not] at c16)
      refine g_ldc (pc := 19) dX9_item_19 wk_X9_145 ?_
      exact retI (pc := 21) hR dX9_item_21 (by rw [ritR, if_neg]; intro h9; simp [h9] at *) (by rw [ritD, if_neg]; intro h9; simp [h9.1] at *)
theorem c_X9_copy {l : Launch} {G : mG} {Z : mZ} {d : mD} {m nw od fd tp rd ah kp ka ln sz it mv : Nat} {u i v j n : Int32} (hm : mdS Z m nw od fd tp rd ah kp ka ln sz it mv) (hz : ∀ i, i < 4 → ∃ z, z ≤ 24 ∧ gA d sz i = nI z) : CtI l G yX9_copy cX9_copy 7 .int 2 45 [.ref m, .int u, .int i, .int v, .int j, .int n] Z d (rcyR d ln sz u i v j n) (rcyD d ln sz it mv u i v j n) := by
  refine enterI RX9 1 [some (.ref m), some (.int u), some (.int i), some (.int v), some (.int j), some (.int n), none] (by decide) rfl (rfl) rfl rfl (fun X hR => ?_)
  refine il1 (pc := 0) dX9_copy_0 ?_
  refine cl_X9_227 (pc := 1) (c_X9_isSheet) (by decide) ⟨Nat.zero_le _, Nat.zero_le _⟩ (Nat.le_of_ble_eq_true rfl) dX9_copy_1 ?_
  refine g_ifeq 14 (pc := 4) dX9_copy_4 (by decide) (fun c4 => ?_) (fun c4 => ?_)
  · skip
    (try simp only [mB_eq0, Decidable.not_not] at c4)
    refine g_ldc (pc := 14) dX9_copy_14 wk_X9_145 ?_
    exact retI (pc := 16) hR dX9_copy_16 (by rw [rcyR, if_neg]; intro h9; simp [h9] at *) (by rw [rcyD, if_neg]; intro h9; simp [h9.1] at *)
  · skip
    (try simp only [mB_eq0, Decidable.not_not] at c4)
    have hu9 := wth_nI 3 (by decide) c4
    refine il3 (pc := 7) dX9_copy_7 ?_
    refine cl_X9_227 (pc := 8) (c_X9_isSheet) (by decide) ⟨Nat.zero_le _, Nat.zero_le _⟩ (Nat.le_of_ble_eq_true rfl) dX9_copy_8 ?_
    refine g_ifne 17 (pc := 11) dX9_copy_11 (by decide) (fun c11 => ?_) (fun c11 => ?_)
    · skip
      (try simp only [mB_eq0, Decidable.not_not] at c11)
      have hv9 := wth_nI 3 (by decide) c11
      refine al0 (pc := 17) dX9_copy_17 ?_
      refine gf_X9_38 (pc := 18) hm.o9 hm.r303 dX9_copy_18 ?_
      refine il1 (pc := 21) dX9_copy_21 ?_
      refine g_iald (pc := 22) (tN u) hm.a_ln (by omega) (hu9.1) (by decide) dX9_copy_22 ?_
      refine g_iflt 35 (pc := 23) dX9_copy_23 (by decide) (fun c23 => ?_) (fun c23 => ?_)
      · skip
        refine g_ldc (pc := 35) dX9_copy_35 wk_X9_231 ?_
        exact retI (pc := 37) hR dX9_copy_37 (by rw [rcyR, if_pos ⟨c4, c11⟩, if_pos (Or.inl c23)]) (by rw [rcyD, if_neg]; intro h9; exact h9.2.1 (Or.inl c23))
      · skip
        refine al0 (pc := 26) dX9_copy_26 ?_
        refine gf_X9_38 (pc := 27) hm.o9 hm.r303 dX9_copy_27 ?_
        refine il3 (pc := 30) dX9_copy_30 ?_
        refine g_iald (pc := 31) (tN v) hm.a_ln (by omega) (hv9.1) (by decide) dX9_copy_31 ?_
        refine g_ifge 38 (pc := 32) dX9_copy_32 (by decide) (fun c32 => ?_) (fun c32 => ?_)
        · skip
          refine al0 (pc := 38) dX9_copy_38 ?_
          refine gf_X9_38 (pc := 39) hm.o9 hm.r303 dX9_copy_39 ?_
          refine il1 (pc := 42) dX9_copy_42 ?_
          refine g_iald (pc := 43) (tN u) hm.a_ln (by omega) (hu9.1) (by decide) dX9_copy_43 ?_
          refine al0 (pc := 44) dX9_copy_44 ?_
          refine gf_X9_38 (pc := 45) hm.o9 hm.r303 dX9_copy_45 ?_
          refine il3 (pc := 48) dX9_copy_48 ?_
          refine g_iald (pc := 49) (tN v) hm.a_ln (by omega) (hv9.1) (by decide) dX9_copy_49 ?_
          refine g_icmpeq 56 (pc := 50) dX9_copy_50 (by decide) (fun c50 => ?_) (fun c50 => ?_)
          · skip
            refine il5 (pc := 56) dX9_copy_56 ?_
            refine g_iflt 105 (pc := 58) dX9_copy_58 (by decide) (fun c58 => ?_) (fun c58 => ?_)
            · skip
              refine g_ldc (pc := 105) dX9_copy_105 wk_X9_233 ?_
              exact retI (pc := 107) hR dX9_copy_107 (by rw [rcyR, if_pos ⟨c4, c11⟩, if_neg (fun h => h.elim c23 (Int32.not_lt.mpr c32)), if_pos c50, if_neg (fun h => Int32.not_le.mpr c58 h.1)]) (by rw [rcyD, if_neg]; intro h9; have h := h9.2.2.2; exact Int32.not_le.mpr c58 h.1)
            · skip
              refine il2 (pc := 61) dX9_copy_61 ?_
              refine g_iflt 105 (pc := 62) dX9_copy_62 (by decide) (fun c62 => ?_) (fun c62 => ?_)
              · skip
                refine g_ldc (pc := 105) dX9_copy_105 wk_X9_233 ?_
                exact retI (pc := 107) hR dX9_copy_107 (by rw [rcyR, if_pos ⟨c4, c11⟩, if_neg (fun h => h.elim c23 (Int32.not_lt.mpr c32)), if_pos c50, if_neg (fun h => Int32.not_le.mpr c62 h.2.1)]) (by rw [rcyD, if_neg]; intro h9; have h := h9.2.2.2; exact Int32.not_le.mpr c62 h.2.1)
              · skip
                refine il4 (pc := 65) dX9_copy_65 ?_
                refine g_iflt 105 (pc := 67) dX9_copy_67 (by decide) (fun c67 => ?_) (fun c67 => ?_)
                · skip
                  refine g_ldc (pc := 105) dX9_copy_105 wk_X9_233 ?_
                  exact retI (pc := 107) hR dX9_copy_107 (by rw [rcyR, if_pos ⟨c4, c11⟩, if_neg (fun h => h.elim c23 (Int32.not_lt.mpr c32)), if_pos c50, if_neg (fun h => Int32.not_le.mpr c67 h.2.2.1)]) (by rw [rcyD, if_neg]; intro h9; have h := h9.2.2.2; exact Int32.not_le.mpr c67 h.2.2.1)
                · skip
                  refine il2 (pc := 70) dX9_copy_70 ?_
                  refine g_i2l (pc := 71) dX9_copy_71 ?_
                  refine il5 (pc := 72) dX9_copy_72 ?_
                  refine g_i2l (pc := 74) dX9_copy_74 ?_
                  refine g_ladd (pc := 75) dX9_copy_75 ?_
                  refine al0 (pc := 76) dX9_copy_76 ?_
                  refine gf_X9_41 (pc := 77) hm.o9 hm.r304 dX9_copy_77 ?_
                  refine il1 (pc := 80) dX9_copy_80 ?_
                  refine g_iald (pc := 81) (tN u) hm.a_sz (by omega) (hu9.1) (by decide) dX9_copy_81 ?_
                  refine g_i2l (pc := 82) dX9_copy_82 ?_
                  refine g_lcmp (pc := 83) dX9_copy_83 ?_
                  refine g_ifgt 105 (pc := 84) dX9_copy_84 (by decide) (fun c84 => ?_) (fun c84 => ?_)
                  · skip
                    rw [lgc_gt] at c84
                    refine g_ldc (pc := 105) dX9_copy_105 wk_X9_233 ?_
                    exact retI (pc := 107) hR dX9_copy_107 (by rw [rcyR, if_pos ⟨c4, c11⟩, if_neg (fun h => h.elim c23 (Int32.not_lt.mpr c32)), if_pos c50, if_neg (fun h => Int64.not_le.mpr c84 h.2.2.2.1)]) (by rw [rcyD, if_neg]; intro h9; have h := h9.2.2.2; exact Int64.not_le.mpr c84 h.2.2.2.1)
                  · skip
                    rw [lgc_gt] at c84
                    refine il4 (pc := 87) dX9_copy_87 ?_
                    refine g_i2l (pc := 89) dX9_copy_89 ?_
                    refine il5 (pc := 90) dX9_copy_90 ?_
                    refine g_i2l (pc := 92) dX9_copy_92 ?_
                    refine g_ladd (pc := 93) dX9_copy_93 ?_
                    refine al0 (pc := 94) dX9_copy_94 ?_
                    refine gf_X9_41 (pc := 95) hm.o9 hm.r304 dX9_copy_95 ?_
                    refine il3 (pc := 98) dX9_copy_98 ?_
                    refine g_iald (pc := 99) (tN v) hm.a_sz (by omega) (hv9.1) (by decide) dX9_copy_99 ?_
                    refine g_i2l (pc := 100) dX9_copy_100 ?_
                    refine g_lcmp (pc := 101) dX9_copy_101 ?_
                    refine g_ifle 108 (pc := 102) dX9_copy_102 (by decide) (fun c102 => ?_) (fun c102 => ?_)
                    · skip
                      rw [lgc_le] at c102
                      have hp9 : rcP d sz u i v j n := ⟨Int32.not_lt.mp c58, Int32.not_lt.mp c62, Int32.not_lt.mp c67, Int64.not_lt.mp c84, c102⟩
                      obtain ⟨z1, hz1, hz2⟩ := hz (tN u) (by omega)
                      obtain ⟨z3, hz3, hz4⟩ := hz (tN v) (by omega)
                      have s1 := hp9.2.2.2.1
                      rw [hz2] at s1
                      have s2 := hp9.2.2.2.2
                      rw [hz4] at s2
                      have t1 := lsum_nI hz1 hp9.2.1 hp9.1 s1
                      have t2 := lsum_nI hz3 hp9.2.2.1 hp9.1 s2
                      refine g_iconst (pc := 108) dX9_copy_108 kc0 ?_
                      refine is6 (pc := 109) dX9_copy_109 rfl ?_
                      have L111 : ∀ (n2 i2 : Nat), i2 + n2 = (tN n) → mGo l G (mRm 2 45) X RX9 cX9_copy 7 0 0 Z 111 [some (.ref m), some (.int u), some (.int i), some (.int v), some (.int j), some (.int n), some (.int (nI i2))] [] (tJ d mv (cpJ (gJ d mv) (fun k => gJ d it (24 * tN u + tN i + k)) 0 i2)) := by
                        intro n2; induction n2 with
                        | zero =>
                          intro i2  hin111 
                          obtain rfl : i2 = tN n := by omega
                          refine il6 (pc := 111) dX9_copy_111 ?_
                          refine il5 (pc := 113) dX9_copy_113 ?_
                          refine g_icmpge 145 (pc := 115) dX9_copy_115 (by decide) (fun c115 => ?_) (fun c115 => absurd (by rw [← t1.2.1]; exact Int32.le_refl _) c115)
                          refine g_iconst (pc := 145) dX9_copy_145 kc0 ?_
                          refine is6 (pc := 146) dX9_copy_146 rfl ?_
                          have L148 : ∀ (n3 i3 : Nat), i3 + n3 = (tN n) → mGo l G (mRm 2 45) X RX9 cX9_copy 7 0 0 Z 148 [some (.ref m), some (.int u), some (.int i), some (.int v), some (.int j), some (.int n), some (.int (nI i3))] [] (tJ (tJ d mv (cpJ (gJ d mv) (fun k => gJ d it (24 * tN u + tN i + k)) 0 (tN n))) it (cpJ (gJ d it) (fun k => gJ d it (24 * tN u + tN i + k)) (24 * tN v + tN j) i3)) := by
                            intro n3; induction n3 with
                            | zero =>
                              intro i3  hin148 
                              obtain rfl : i3 = tN n := by omega
                              refine il6 (pc := 148) dX9_copy_148 ?_
                              refine il5 (pc := 150) dX9_copy_150 ?_
                              refine g_icmpge 183 (pc := 152) dX9_copy_152 (by decide) (fun c152 => ?_) (fun c152 => absurd (by rw [← t1.2.1]; exact Int32.le_refl _) c152)
                              refine il5 (pc := 183) dX9_copy_183 ?_
                              exact retI (pc := 185) hR dX9_copy_185 (by rw [rcyR, if_pos ⟨c4, c11⟩, if_neg (fun h => h.elim c23 (Int32.not_lt.mpr c32)), if_pos c50, if_pos hp9]) (by rw [rcyD, if_pos ⟨⟨c4, c11⟩, (fun h => h.elim c23 (Int32.not_lt.mpr c32)), c50, hp9⟩])
                            | succ n3 ih148 =>
                              intro i3  hin148 
                              refine il6 (pc := 148) dX9_copy_148 ?_
                              refine il5 (pc := 150) dX9_copy_150 ?_
                              refine g_icmpge 183 (pc := 152) dX9_copy_152 (by decide) (fun c152 => absurd c152 (by rw [t1.2.1]; exact nI_ge (by omega) (by omega))) (fun c152 => ?_)
                              refine al0 (pc := 155) dX9_copy_155 ?_
                              refine gf_X9_44 (pc := 156) hm.o9 hm.r305 dX9_copy_156 ?_
                              refine g_bipush (pc := 159) dX9_copy_159 kb24 ?_
                              refine il3 (pc := 161) dX9_copy_161 ?_
                              refine g_imul (pc := 162) dX9_copy_162 ?_
                              refine il4 (pc := 163) dX9_copy_163 ?_
                              refine g_iadd (pc := 165) dX9_copy_165 ?_
                              refine il6 (pc := 166) dX9_copy_166 ?_
                              refine g_iadd (pc := 168) dX9_copy_168 ?_
                              refine al0 (pc := 169) dX9_copy_169 ?_
                              refine gf_X9_48 (pc := 170) hm.o9 hm.r306 dX9_copy_170 ?_
                              refine il6 (pc := 173) dX9_copy_173 ?_
                              refine g_lald (pc := 175) i3 hm.a_mv (by omega) (rfl) (by decide) dX9_copy_175 ?_
                              rw [gJ_tJ, if_neg hm.nim.symm, gJ_tJ, if_pos rfl, cpJ_in0 _ _ _ _ (by omega)]
                              refine g_last (pc := 176) (24 * tN v + tN j + i3) hm.a_it (by omega) (by rw [show (24 : Int32) * v + j = nI 24 * nI (tN v) + nI (tN j) by rw [← hv9.1, ← t2.1]; rfl, pk_mul, nI_add, nI_add]) (by decide) dX9_copy_176 ?_
                              rw [gJ_tJ, if_pos rfl, tJ_tJ, cpJ_s (gJ d it) (fun k => gJ d it (24 * tN u + tN i + k)) (24 * tN v + tN j) i3]
                              refine ic6 (pc := 177) dX9_copy_177 kc1 rfl ?_
                              refine g_goto 148 (pc := 180) dX9_copy_180 (by decide) ?_
                              rw [nI_1]
                              exact ih148 (i3 + 1) (by omega)
                          have q9 := L148 (tN n) 0 (by omega)
                          rw [cpJ_0, show tJ (tJ d mv (cpJ (gJ d mv) (fun k => gJ d it (24 * tN u + tN i + k)) 0 (tN n))) it (gJ d it) = (tJ d mv (cpJ (gJ d mv) (fun k => gJ d it (24 * tN u + tN i + k)) 0 (tN n))) from tJ_selfE (by rw [gJ_tJ, if_neg hm.nim])] at q9
                          exact q9
                        | succ n2 ih111 =>
                          intro i2  hin111 
                          refine il6 (pc := 111) dX9_copy_111 ?_
                          refine il5 (pc := 113) dX9_copy_113 ?_
                          refine g_icmpge 145 (pc := 115) dX9_copy_115 (by decide) (fun c115 => absurd c115 (by rw [t1.2.1]; exact nI_ge (by omega) (by omega))) (fun c115 => ?_)
                          refine al0 (pc := 118) dX9_copy_118 ?_
                          refine gf_X9_48 (pc := 119) hm.o9 hm.r306 dX9_copy_119 ?_
                          refine il6 (pc := 122) dX9_copy_122 ?_
                          refine al0 (pc := 124) dX9_copy_124 ?_
                          refine gf_X9_44 (pc := 125) hm.o9 hm.r305 dX9_copy_125 ?_
                          refine g_bipush (pc := 128) dX9_copy_128 kb24 ?_
                          refine il1 (pc := 130) dX9_copy_130 ?_
                          refine g_imul (pc := 131) dX9_copy_131 ?_
                          refine il2 (pc := 132) dX9_copy_132 ?_
                          refine g_iadd (pc := 133) dX9_copy_133 ?_
                          refine il6 (pc := 134) dX9_copy_134 ?_
                          refine g_iadd (pc := 136) dX9_copy_136 ?_
                          refine g_lald (pc := 137) (24 * tN u + tN i + i2) hm.a_it (by omega) (by rw [show (24 : Int32) * u + i = nI 24 * nI (tN u) + nI (tN i) by rw [← hu9.1, ← t1.1]; rfl, pk_mul, nI_add, nI_add]) (by decide) dX9_copy_137 ?_
                          rw [gJ_tJ, if_neg hm.nim]
                          refine g_last (pc := 138) i2 hm.a_mv (by omega) (rfl) (by decide) dX9_copy_138 ?_
                          rw [gJ_tJ, if_pos rfl, tJ_tJ, cpJ_s0 (gJ d mv) (fun k => gJ d it (24 * tN u + tN i + k)) i2]
                          refine ic6 (pc := 139) dX9_copy_139 kc1 rfl ?_
                          refine g_goto 111 (pc := 142) dX9_copy_142 (by decide) ?_
                          rw [nI_1]
                          exact ih111 (i2 + 1) (by omega)
                      have q9 := L111 (tN n) 0 (by omega)
                      rw [cpJ_0, tJ_self] at q9
                      exact q9
                    · skip
                      rw [lgc_le] at c102
                      refine g_ldc (pc := 105) dX9_copy_105 wk_X9_233 ?_
                      exact retI (pc := 107) hR dX9_copy_107 (by rw [rcyR, if_pos ⟨c4, c11⟩, if_neg (fun h => h.elim c23 (Int32.not_lt.mpr c32)), if_pos c50, if_neg (fun h => c102 h.2.2.2.2)]) (by rw [rcyD, if_neg]; intro h9; have h := h9.2.2.2; exact c102 h.2.2.2.2)
          · skip
            refine g_ldc (pc := 53) dX9_copy_53 wk_X9_232 ?_
            exact retI (pc := 55) hR dX9_copy_55 (by rw [rcyR, if_pos ⟨c4, c11⟩, if_neg (fun h => h.elim c23 (Int32.not_lt.mpr c32)), if_neg c50]) (by rw [rcyD, if_neg]; intro h9; exact c50 h9.2.2.1)
        · skip
          refine g_ldc (pc := 35) dX9_copy_35 wk_X9_231 ?_
          exact retI (pc := 37) hR dX9_copy_37 (by rw [rcyR, if_pos ⟨c4, c11⟩, if_pos (Or.inr (Int32.not_le.mp c32))]) (by rw [rcyD, if_neg]; intro h9; exact h9.2.1 (Or.inr (Int32.not_le.mp c32)))
    · skip
      (try simp only [mB_eq0, Decidable.not_not] at c11)
      refine g_ldc (pc := 14) dX9_copy_14 wk_X9_145 ?_
      exact retI (pc := 16) hR dX9_copy_16 (by rw [rcyR, if_neg]; intro h9; simp [h9] at *) (by rw [rcyD, if_neg]; intro h9; simp [h9.1] at *)
theorem c_X9_film {l : Launch} {G : mG} {Z : mZ} {d : mD} {m nw od fd tp rd ah kp ka ln sz it mv : Nat} {n v la i0 : Int32} (hm : mdS Z m nw od fd tp rd ah kp ka ln sz it mv) (hz : ∀ i, i < 4 → ∃ z, z ≤ 24 ∧ gA d sz i = nI z) : CtI l G yX9_film cX9_film 7 .int 6 144 [.ref m, .int n, .int v, .int la, .int i0] Z d (rfmR d ln sz n v la i0) (rfmD d nw od ln sz it n v la i0) := by
  refine enterI RX9 2 [some (.ref m), some (.int n), some (.int v), some (.int la), some (.int i0), none, none] (by decide) rfl (rfl) rfl rfl (fun X hR => ?_)
  refine il1 (pc := 0) dX9_film_0 ?_
  refine g_i2l (pc := 1) dX9_film_1 ?_
  refine g_lconst (pc := 2) dX9_film_2 kl1 ?_
  refine g_ldc2 (pc := 3) dX9_film_3 wk_X9_225 ?_
  refine cl_X9_70 (pc := 6) (c_X9_in) (by decide) ⟨Nat.zero_le _, Nat.zero_le _⟩ (Nat.le_of_ble_eq_true rfl) dX9_film_6 ?_
  rw [inI n (1) 6 (by decide) (by decide)]
  refine g_ifeq 31 (pc := 9) dX9_film_9 (by decide) (fun c9 => ?_) (fun c9 => ?_)
  · skip
    (try simp only [mB_eq0, Decidable.not_not] at c9)
    refine g_ldc (pc := 31) dX9_film_31 wk_X9_145 ?_
    exact retI (pc := 33) hR dX9_film_33 (by rw [rfmR, if_neg]; intro h9; simp [h9] at *) (by rw [rfmD, if_neg]; intro h9; simp [h9.1] at *)
  · skip
    (try simp only [mB_eq0, Decidable.not_not] at c9)
    have hn9 := w16 c9
    refine il2 (pc := 12) dX9_film_12 ?_
    refine cl_X9_227 (pc := 13) (c_X9_isSheet) (by decide) ⟨Nat.zero_le _, Nat.zero_le _⟩ (Nat.le_of_ble_eq_true rfl) dX9_film_13 ?_
    refine g_ifeq 31 (pc := 16) dX9_film_16 (by decide) (fun c16 => ?_) (fun c16 => ?_)
    · skip
      (try simp only [mB_eq0, Decidable.not_not] at c16)
      refine g_ldc (pc := 31) dX9_film_31 wk_X9_145 ?_
      exact retI (pc := 33) hR dX9_film_33 (by rw [rfmR, if_neg]; intro h9; simp [h9] at *) (by rw [rfmD, if_neg]; intro h9; simp [h9.1] at *)
    · skip
      (try simp only [mB_eq0, Decidable.not_not] at c16)
      have hv9 := wth_nI 3 (by decide) c16
      refine il3 (pc := 19) dX9_film_19 ?_
      refine g_i2l (pc := 20) dX9_film_20 ?_
      refine g_lconst (pc := 21) dX9_film_21 kl0 ?_
      refine g_ldc2 (pc := 22) dX9_film_22 wk_X9_197 ?_
      refine cl_X9_70 (pc := 25) (c_X9_in) (by decide) ⟨Nat.zero_le _, Nat.zero_le _⟩ (Nat.le_of_ble_eq_true rfl) dX9_film_25 ?_
      rw [inI la (0) 3 (by decide) (by decide)]
      refine g_ifne 34 (pc := 28) dX9_film_28 (by decide) (fun c28 => ?_) (fun c28 => ?_)
      · skip
        (try simp only [mB_eq0, Decidable.not_not] at c28)
        refine al0 (pc := 34) dX9_film_34 ?_
        refine il2 (pc := 35) dX9_film_35 ?_
        refine il3 (pc := 36) dX9_film_36 ?_
        refine il4 (pc := 37) dX9_film_37 ?_
        refine il1 (pc := 39) dX9_film_39 ?_
        refine cl_X9_234 (pc := 40) (c_X9_why hm c16) hm.o9 (by decide) ⟨Nat.zero_le _, Nat.zero_le _⟩ (Nat.le_of_ble_eq_true rfl) dX9_film_40 ?_
        refine is5 (pc := 43) dX9_film_43 rfl ?_
        refine il5 (pc := 45) dX9_film_45 ?_
        refine g_ifge 53 (pc := 47) dX9_film_47 (by decide) (fun c47 => ?_) (fun c47 => ?_)
        · skip
          obtain ⟨z, hz1, hz2⟩ := hz (tN v) (by omega)
          have hw9 := why_0 c47
          rw [hz2] at hw9
          have hs9 := why_nI hz1 hw9.2.2.2.1 hn9.2.2.2 hw9.2.2.2.2
          refine g_iconst (pc := 53) dX9_film_53 kc0 ?_
          refine is6 (pc := 54) dX9_film_54 rfl ?_
          have L56 : ∀ (n9 i : Nat), i + n9 = (tN n) → mGo l G (mRm 6 144) X RX9 cX9_film 7 0 0 Z 56 [some (.ref m), some (.int n), some (.int v), some (.int la), some (.int i0), none, some (.int (nI i))] [] (tJ d it (cpJ (gJ d it) (rfmH (gA d od) (gA d nw)) (24 * tN v + tN i0) i)) := by
            intro n9; induction n9 with
            | zero =>
              intro i  hin56 
              obtain rfl : i = tN n := by omega
              refine il6 (pc := 56) dX9_film_56 ?_
              refine il1 (pc := 58) dX9_film_58 ?_
              refine g_icmpge 90 (pc := 59) dX9_film_59 (by decide) (fun c59 => ?_) (fun c59 => absurd (by rw [← hn9.1]; exact Int32.le_refl _) c59)
              refine il1 (pc := 90) dX9_film_90 ?_
              exact retI (pc := 91) hR dX9_film_91 (by rw [rfmR, if_pos ⟨⟨c9, c16⟩, c28⟩, if_pos c47]) (by rw [rfmD, if_pos ⟨⟨⟨c9, c16⟩, c28⟩, c47⟩])
            | succ n9 ih56 =>
              intro i  hin56 
              refine il6 (pc := 56) dX9_film_56 ?_
              refine il1 (pc := 58) dX9_film_58 ?_
              refine g_icmpge 90 (pc := 59) dX9_film_59 (by decide) (fun c59 => absurd c59 (by rw [hn9.1]; exact nI_ge (by omega) (by omega))) (fun c59 => ?_)
              refine al0 (pc := 62) dX9_film_62 ?_
              refine gf_X9_44 (pc := 63) hm.o9 hm.r305 dX9_film_63 ?_
              refine g_bipush (pc := 66) dX9_film_66 kb24 ?_
              refine il2 (pc := 68) dX9_film_68 ?_
              refine g_imul (pc := 69) dX9_film_69 ?_
              refine il4 (pc := 70) dX9_film_70 ?_
              refine g_iadd (pc := 72) dX9_film_72 ?_
              refine il6 (pc := 73) dX9_film_73 ?_
              refine g_iadd (pc := 75) dX9_film_75 ?_
              refine al0 (pc := 76) dX9_film_76 ?_
              refine il6 (pc := 77) dX9_film_77 ?_
              refine cl_X9_116 (pc := 79) (c_X9_best hm) hm.o9 (by decide) ⟨Nat.zero_le _, Nat.zero_le _⟩ (Nat.le_of_ble_eq_true rfl) dX9_film_79 ?_
              refine g_i2l (pc := 82) dX9_film_82 ?_
              refine g_last (pc := 83) (24 * tN v + tN i0 + i) hm.a_it (by omega) (by rw [show (24 : Int32) * v + i0 = nI 24 * nI (tN v) + nI (tN i0) by rw [← hv9.1, ← hs9.1]; rfl, pk_mul, nI_add, nI_add]) (by decide) dX9_film_83 ?_
              rw [gJ_tJ, if_pos rfl, tJ_tJ, gA_tJ, gA_tJ]
              rw [← rfmH, cpJ_s]
              refine ic6 (pc := 84) dX9_film_84 kc1 rfl ?_
              refine g_goto 56 (pc := 87) dX9_film_87 (by decide) ?_
              rw [nI_1]
              exact ih56 (i + 1) (by omega)
          refine dr5 ?_
          have q9 := L56 (tN n) 0 (by omega)
          rw [cpJ_0, tJ_self] at q9
          exact q9
        · skip
          refine il5 (pc := 50) dX9_film_50 ?_
          exact retI (pc := 52) hR dX9_film_52 (by rw [rfmR, if_pos ⟨⟨c9, c16⟩, c28⟩, if_neg c47]) (by rw [rfmD, if_neg]; intro h9; exact c47 h9.2)
      · skip
        (try simp only [mB_eq0, Decidable.not_not] at c28)
        refine g_ldc (pc := 31) dX9_film_31 wk_X9_145 ?_
        exact retI (pc := 33) hR dX9_film_33 (by rw [rfmR, if_neg]; intro h9; simp [h9] at *) (by rw [rfmD, if_neg]; intro h9; simp [h9.1] at *)
theorem c_X9_found {l : Launch} {G : mG} {Z : mZ} {d : mD} {m nw od fd tp rd ah kp ka ln sz it mv : Nat} {v la i n : Int32} (hm : mdS Z m nw od fd tp rd ah kp ka ln sz it mv) (hz : ∀ i, i < 4 → ∃ z, z ≤ 24 ∧ gA d sz i = nI z) : CtI l G yX9_found cX9_found 10 .int 5 123 [.ref m, .int v, .int la, .int i, .int n] Z d (rfuR d nw od ln sz it v la i n) d := by
  refine enterI RX9 5 [some (.ref m), some (.int v), some (.int la), some (.int i), some (.int n), none, none, none, none, none] (by decide) rfl (rfl) rfl rfl (fun X hR => ?_)
  refine il1 (pc := 0) dX9_found_0 ?_
  refine cl_X9_227 (pc := 1) (c_X9_isSheet) (by decide) ⟨Nat.zero_le _, Nat.zero_le _⟩ (Nat.le_of_ble_eq_true rfl) dX9_found_1 ?_
  refine g_ifeq 32 (pc := 4) dX9_found_4 (by decide) (fun c4 => ?_) (fun c4 => ?_)
  · skip
    (try simp only [mB_eq0, Decidable.not_not] at c4)
    refine g_ldc (pc := 32) dX9_found_32 wk_X9_145 ?_
    exact retI (pc := 34) hR dX9_found_34 (by rw [rfuR, if_neg]; intro h9; simp [h9] at *) (rfl)
  · skip
    (try simp only [mB_eq0, Decidable.not_not] at c4)
    have hv9 := wth_nI 3 (by decide) c4
    refine il2 (pc := 7) dX9_found_7 ?_
    refine g_i2l (pc := 8) dX9_found_8 ?_
    refine g_lconst (pc := 9) dX9_found_9 kl0 ?_
    refine g_ldc2 (pc := 10) dX9_found_10 wk_X9_197 ?_
    refine cl_X9_70 (pc := 13) (c_X9_in) (by decide) ⟨Nat.zero_le _, Nat.zero_le _⟩ (Nat.le_of_ble_eq_true rfl) dX9_found_13 ?_
    rw [inI la (0) 3 (by decide) (by decide)]
    refine g_ifeq 32 (pc := 16) dX9_found_16 (by decide) (fun c16 => ?_) (fun c16 => ?_)
    · skip
      (try simp only [mB_eq0, Decidable.not_not] at c16)
      refine g_ldc (pc := 32) dX9_found_32 wk_X9_145 ?_
      exact retI (pc := 34) hR dX9_found_34 (by rw [rfuR, if_neg]; intro h9; simp [h9] at *) (rfl)
    · skip
      (try simp only [mB_eq0, Decidable.not_not] at c16)
      refine il4 (pc := 19) dX9_found_19 ?_
      refine g_i2l (pc := 21) dX9_found_21 ?_
      refine g_lconst (pc := 22) dX9_found_22 kl1 ?_
      refine g_ldc2 (pc := 23) dX9_found_23 wk_X9_225 ?_
      refine cl_X9_70 (pc := 26) (c_X9_in) (by decide) ⟨Nat.zero_le _, Nat.zero_le _⟩ (Nat.le_of_ble_eq_true rfl) dX9_found_26 ?_
      rw [inI n (1) 6 (by decide) (by decide)]
      refine g_ifne 35 (pc := 29) dX9_found_29 (by decide) (fun c29 => ?_) (fun c29 => ?_)
      · skip
        (try simp only [mB_eq0, Decidable.not_not] at c29)
        have hn9 := w16 c29
        refine al0 (pc := 35) dX9_found_35 ?_
        refine il1 (pc := 36) dX9_found_36 ?_
        refine il2 (pc := 37) dX9_found_37 ?_
        refine il3 (pc := 38) dX9_found_38 ?_
        refine il4 (pc := 39) dX9_found_39 ?_
        refine cl_X9_234 (pc := 41) (c_X9_why hm c4) hm.o9 (by decide) ⟨Nat.zero_le _, Nat.zero_le _⟩ (Nat.le_of_ble_eq_true rfl) dX9_found_41 ?_
        refine is5 (pc := 44) dX9_found_44 rfl ?_
        refine il5 (pc := 46) dX9_found_46 ?_
        refine g_ifge 54 (pc := 48) dX9_found_48 (by decide) (fun c48 => ?_) (fun c48 => ?_)
        · skip
          obtain ⟨z, hz1, hz2⟩ := hz (tN v) (by omega)
          have hw9 := why_0 c48
          rw [hz2] at hw9
          have hs9 := why_nI hz1 hw9.2.2.2.1 hn9.2.2.2 hw9.2.2.2.2
          refine g_iconst (pc := 54) dX9_found_54 kc0 ?_
          refine is6 (pc := 55) dX9_found_55 rfl ?_
          refine g_iconst (pc := 57) dX9_found_57 kc0 ?_
          refine is7 (pc := 58) dX9_found_58 rfl ?_
          have L60 : ∀ (n9 k : Nat) (s9 : Int32), k + n9 = 5 → (rfuL (gA d od) (gA d nw) (fun b => gJ d it (24 * tN v + tN i + b)) (tN n) n9 k s9 = rfuL (gA d od) (gA d nw) (fun b => gJ d it (24 * tN v + tN i + b)) (tN n) 5 0 0) → mGo l G (mRm 5 123) X RX9 cX9_found 10 0 0 Z 60 [some (.ref m), some (.int v), some (.int la), some (.int i), some (.int n), none, some (.int s9), some (.int (nI k)), none, none] [] d := by
            intro n9; induction n9 with
            | zero =>
              intro k s9 hin60 hF
              refine il7 (pc := 60) dX9_found_60 ?_
              refine g_iconst (pc := 62) dX9_found_62 kc5 ?_
              refine g_icmpge 148 (pc := 63) dX9_found_63 (by decide) (fun c63 => ?_) (fun c63 => absurd (nI_le (a := 5) (by omega) (by omega)) c63)
              refine il6 (pc := 148) dX9_found_148 ?_
              exact retI (pc := 150) hR dX9_found_150 (by rw [rfuR, if_pos ⟨⟨c4, c16⟩, c29⟩, if_pos c48]; exact hF) (rfl)
            | succ n9 ih60 =>
              intro k s9 hin60 hF
              refine il7 (pc := 60) dX9_found_60 ?_
              refine g_iconst (pc := 62) dX9_found_62 kc5 ?_
              refine g_icmpge 148 (pc := 63) dX9_found_63 (by decide) (fun c63 => absurd c63 (nI_ge (b := 5) (by omega) (by omega))) (fun c63 => ?_)
              refine g_iconst (pc := 66) dX9_found_66 kc1 ?_
              refine is8 (pc := 67) dX9_found_67 rfl ?_
              refine g_iconst (pc := 69) dX9_found_69 kc0 ?_
              refine is9 (pc := 70) dX9_found_70 rfl ?_
              have L72 : ∀ (n2 b2 : Nat) (a2 : Int32), b2 + n2 = (tN n) → (rfuI (gA d od) (gA d nw) (fun b => gJ d it (24 * tN v + tN i + b)) (nI k) n2 b2 a2 = rfuI (gA d od) (gA d nw) (fun b => gJ d it (24 * tN v + tN i + b)) (nI k) (tN n) 0 1) → mGo l G (mRm 5 123) X RX9 cX9_found 10 0 0 Z 72 [some (.ref m), some (.int v), some (.int la), some (.int i), some (.int n), none, some (.int s9), some (.int (nI k)), some (.int a2), some (.int (nI b2))] [] d := by
                intro n2; induction n2 with
                | zero =>
                  intro b2 a2 hin72 hG
                  have g2 : a2 = rfuI (gA d od) (gA d nw) (fun b => gJ d it (24 * tN v + tN i + b)) (nI k) (tN n) 0 1 := by rw [← hG]; rfl
                  refine il9 (pc := 72) dX9_found_72 ?_
                  refine il4 (pc := 74) dX9_found_74 ?_
                  refine g_icmpge 124 (pc := 76) dX9_found_76 (by decide) (fun c76 => ?_) (fun c76 => absurd (by rw [show b2 = tN n by omega, ← hn9.1]; exact Int32.le_refl _) c76)
                  subst g2
                  refine il6 (pc := 124) dX9_found_124 ?_
                  refine il8 (pc := 126) dX9_found_126 ?_
                  refine g_ifeq 138 (pc := 128) dX9_found_128 (by decide) (fun c128 => ?_) (fun c128 => ?_)
                  · skip
                    refine g_iconst (pc := 138) dX9_found_138 kc0 ?_
                    refine g_ior (pc := 139) dX9_found_139 ?_
                    refine is6 (pc := 140) dX9_found_140 rfl ?_
                    refine ic7 (pc := 142) dX9_found_142 kc1 rfl ?_
                    refine g_goto 60 (pc := 145) dX9_found_145 (by decide) ?_
                    rw [nI_1]
                    refine dr8 ?_
                    refine dr9 ?_
                    exact ih60 (k + 1) _ (by omega) (by rw [← hF, rfuL, if_pos c128])
                  · skip
                    refine g_iconst (pc := 131) dX9_found_131 kc1 ?_
                    refine il7 (pc := 132) dX9_found_132 ?_
                    refine g_ishl (pc := 134) dX9_found_134 ?_
                    refine g_goto 139 (pc := 135) dX9_found_135 (by decide) ?_
                    refine g_ior (pc := 139) dX9_found_139 ?_
                    refine is6 (pc := 140) dX9_found_140 rfl ?_
                    refine ic7 (pc := 142) dX9_found_142 kc1 rfl ?_
                    refine g_goto 60 (pc := 145) dX9_found_145 (by decide) ?_
                    rw [nI_1]
                    refine dr8 ?_
                    refine dr9 ?_
                    exact ih60 (k + 1) _ (by omega) (by rw [← hF, rfuL, if_neg c128])
                | succ n2 ih72 =>
                  intro b2 a2 hin72 hG
                  refine il9 (pc := 72) dX9_found_72 ?_
                  refine il4 (pc := 74) dX9_found_74 ?_
                  refine g_icmpge 124 (pc := 76) dX9_found_76 (by decide) (fun c76 => absurd c76 (by rw [hn9.1]; exact nI_ge (by omega) (by omega))) (fun c76 => ?_)
                  refine il8 (pc := 79) dX9_found_79 ?_
                  refine g_ifeq 124 (pc := 81) dX9_found_81 (by decide) (fun c81 => ?_) (fun c81 => ?_)
                  · skip
                    have g2 : a2 = rfuI (gA d od) (gA d nw) (fun b => gJ d it (24 * tN v + tN i + b)) (nI k) (tN n) 0 1 := by rw [← hG, rfuI, if_pos c81]
                    subst g2
                    refine il6 (pc := 124) dX9_found_124 ?_
                    refine il8 (pc := 126) dX9_found_126 ?_
                    refine g_ifeq 138 (pc := 128) dX9_found_128 (by decide) (fun c128 => ?_) (fun c128 => ?_)
                    · skip
                      refine g_iconst (pc := 138) dX9_found_138 kc0 ?_
                      refine g_ior (pc := 139) dX9_found_139 ?_
                      refine is6 (pc := 140) dX9_found_140 rfl ?_
                      refine ic7 (pc := 142) dX9_found_142 kc1 rfl ?_
                      refine g_goto 60 (pc := 145) dX9_found_145 (by decide) ?_
                      rw [nI_1]
                      refine dr8 ?_
                      refine dr9 ?_
                      exact ih60 (k + 1) _ (by omega) (by rw [← hF, rfuL, if_pos c128])
                    · skip
                      refine g_iconst (pc := 131) dX9_found_131 kc1 ?_
                      refine il7 (pc := 132) dX9_found_132 ?_
                      refine g_ishl (pc := 134) dX9_found_134 ?_
                      refine g_goto 139 (pc := 135) dX9_found_135 (by decide) ?_
                      refine g_ior (pc := 139) dX9_found_139 ?_
                      refine is6 (pc := 140) dX9_found_140 rfl ?_
                      refine ic7 (pc := 142) dX9_found_142 kc1 rfl ?_
                      refine g_goto 60 (pc := 145) dX9_found_145 (by decide) ?_
                      rw [nI_1]
                      refine dr8 ?_
                      refine dr9 ?_
                      exact ih60 (k + 1) _ (by omega) (by rw [← hF, rfuL, if_neg c128])
                  · skip
                    refine al0 (pc := 84) dX9_found_84 ?_
                    refine il7 (pc := 85) dX9_found_85 ?_
                    refine il9 (pc := 87) dX9_found_87 ?_
                    refine cl_X9_90 (pc := 89) (c_X9_bestBy hm) hm.o9 (by decide) ⟨Nat.zero_le _, Nat.zero_le _⟩ (Nat.le_of_ble_eq_true rfl) dX9_found_89 ?_
                    refine g_i2l (pc := 92) dX9_found_92 ?_
                    refine al0 (pc := 93) dX9_found_93 ?_
                    refine gf_X9_44 (pc := 94) hm.o9 hm.r305 dX9_found_94 ?_
                    refine g_bipush (pc := 97) dX9_found_97 kb24 ?_
                    refine il1 (pc := 99) dX9_found_99 ?_
                    refine g_imul (pc := 100) dX9_found_100 ?_
                    refine il3 (pc := 101) dX9_found_101 ?_
                    refine g_iadd (pc := 102) dX9_found_102 ?_
                    refine il9 (pc := 103) dX9_found_103 ?_
                    refine g_iadd (pc := 105) dX9_found_105 ?_
                    refine g_lald (pc := 106) (24 * tN v + tN i + b2) hm.a_it (by omega) (by rw [show (24 : Int32) * v + i = nI 24 * nI (tN v) + nI (tN i) by rw [← hv9.1, ← hs9.1]; rfl, pk_mul, nI_add, nI_add]) (by decide) dX9_found_106 ?_
                    refine g_lcmp (pc := 107) dX9_found_107 ?_
                    refine g_ifne 115 (pc := 108) dX9_found_108 (by decide) (fun c108 => ?_) (fun c108 => ?_)
                    · skip
                      rw [lgc_eq] at c108
                      refine g_iconst (pc := 115) dX9_found_115 kc0 ?_
                      refine is8 (pc := 116) dX9_found_116 rfl ?_
                      refine ic9 (pc := 118) dX9_found_118 kc1 rfl ?_
                      refine g_goto 72 (pc := 121) dX9_found_121 (by decide) ?_
                      rw [nI_1]
                      exact ih72 (b2 + 1) _ (by omega) (by rw [← hG, rfuI, if_neg c81, if_neg c108])
                    · skip
                      rw [lgc_eq] at c108
                      refine g_iconst (pc := 111) dX9_found_111 kc1 ?_
                      refine g_goto 116 (pc := 112) dX9_found_112 (by decide) ?_
                      refine is8 (pc := 116) dX9_found_116 rfl ?_
                      refine ic9 (pc := 118) dX9_found_118 kc1 rfl ?_
                      refine g_goto 72 (pc := 121) dX9_found_121 (by decide) ?_
                      rw [nI_1]
                      exact ih72 (b2 + 1) _ (by omega) (by rw [← hG, rfuI, if_neg c81, if_pos c108])
              exact L72 (tN n) 0 1 (by omega) rfl
          refine dr5 ?_
          exact L60 5 0 0 (by omega) rfl
        · skip
          refine il5 (pc := 51) dX9_found_51 ?_
          exact retI (pc := 53) hR dX9_found_53 (by rw [rfuR, if_pos ⟨⟨c4, c16⟩, c29⟩, if_neg c48]) (rfl)
      · skip
        (try simp only [mB_eq0, Decidable.not_not] at c29)
        refine g_ldc (pc := 32) dX9_found_32 wk_X9_145 ?_
        exact retI (pc := 34) hR dX9_found_34 (by rw [rfuR, if_neg]; intro h9; simp [h9] at *) (rfl)
