theorem rdL_cg {le lf : Nat → Int32} (sz : Nat) : ∀ n i f tg td rn, (∀ j, i ≤ j → j < i + n → le j = lf j) → rdL le sz n i f tg td rn = rdL lf sz n i f tg td rn
  | 0, _, _, _, _, _, _ => rfl
  | n + 1, i, f, tg, td, rn, h => by
    have ih := fun f tg td rn => rdL_cg sz n (i + 1) f tg td rn (fun j h1 h2 => h j (by omega) (by omega))
    rw [rdL, rdL, h i (by omega) (by omega)]
    simp only [ih]
/-- picture, as both read it -/
theorem pic_eq {le : Nat → Int32} {N : Nat} (h : lB le N) (f g : Nat → Int32) : rdQ le N (if isPc (hrC le N 0) then hrC le N 0 else 0) (rdL le N N 0 f 0 0 0) (rpiT le N g) := by
  have e : rdL le N N 0 f 0 0 0 = rdA le N 0 f 0 0 0 := by unfold rdA; rw [Nat.sub_zero]
  rw [e]
  unfold rpiT
  by_cases hp : isPc (hrC le N 0)
  · have h0 : ¬ hrC le N 0 = 0 := fun q => by rw [q] at hp; revert hp; decide
    have hl := hrC_lt h0
    rw [if_pos hp, if_pos hp, rdA_let (Nat.zero_le _) h0, if_neg (fun q => q (Or.inl ⟨rfl, hp⟩)), if_pos rfl]
    exact rd_eq h h0 96 0 _ f g (by omega) (by omega) (by omega) (fun j hj => absurd hj (by omega))
  · rw [if_neg hp, if_neg hp]
    by_cases h0 : hrC le N 0 = 0
    · rw [rdA_end h (Nat.zero_le _) h0, if_pos (Or.inl rfl)]
      exact rdQ_no (by rw [hrC_idem le (Nat.zero_le _), if_pos h0])
    · rw [rdA_let (Nat.zero_le _) h0, if_pos (fun q => by rcases q with q | q; exact hp q.2; exact q.1 rfl)]
      exact rdQ_no (by rw [hrC_idem le (Nat.zero_le _), if_neg h0, hrP_idem le (Nat.zero_le _)])
theorem rpiR_neg {le : Nat → Int32} {N : Nat} (hN : N ≤ 120) {Q : Int32 × Nat × (Nat → Int32)} (hQ : Q.2.1 ≤ N) (h : Q.1 = -1000004) : rpiR le N Q < 0 := by
  unfold rpiR
  rw [if_pos h]
  have hl := hrP_le le hQ
  have e0 : (0 : Int32).toInt = 0 := by decide
  have e1 : (-1000020 : Int32).toInt = -1000020 := by decide
  have key : ∀ v : Nat, v ≤ 120 → -1000020 - nI v < 0 := fun v hv => by
    rw [ma_lt, i_sub (by rw [e1, nI_toInt (by omega)]; omega) (by rw [e1, nI_toInt (by omega)]; omega), e1, e0, nI_toInt (by omega)]
    omega
  split
  · exact key N hN
  · exact key _ (by omega)
theorem gcd_n : ∀ n e a b, a < 2 ^ 31 → b < 2 ^ 31 → b < 2 ^ n → gcdI (2 * n + 1 + e) (nI a) (nI b) = nI (Nat.gcd a b)
  | 0, e, a, b, ha, hb, h => by
    have : b = 0 := by simpa using h
    subst this
    rw [show 2 * 0 + 1 + e = e + 1 by omega, gcdI, if_pos (by decide), Nat.gcd_zero_right]
  | n + 1, e, a, b, ha, hb, h => by
    by_cases h0 : b = 0
    · subst h0
      rw [show 2 * (n + 1) + 1 + e = (2 * (n + 1) + e) + 1 by omega, gcdI, if_pos (by decide), Nat.gcd_zero_right]
    · have hb0 : ¬ nI b = 0 := fun q => h0 ((nI_eq (b := 0) (by omega) (by decide)).mp q)
      have hr : mRem (nI a) (nI b) = nI (a % b) := pk_rem ha (by omega) hb
      have hlt := Nat.mod_lt a (show 0 < b by omega)
      rw [show 2 * (n + 1) + 1 + e = (2 * n + 1 + e) + 1 + 1 by omega, gcdI, if_neg hb0, hr]
      by_cases h1 : a % b = 0
      · rw [h1, gcdI, if_pos (by decide)]
        rw [Nat.gcd_comm, Nat.gcd_rec, h1, Nat.gcd_zero_left]
      · have hb1 : ¬ nI (a % b) = 0 := fun q => h1 ((nI_eq (b := 0) (by omega) (by decide)).mp q)
        have hr2 : mRem (nI b) (nI (a % b)) = nI (b % (a % b)) := pk_rem hb (by omega) (by omega)
        have hlt2 := Nat.mod_lt b (show 0 < a % b by omega)
        have hhalf : b % (a % b) < 2 ^ n := by
          have hpow : 2 ^ (n + 1) = 2 * 2 ^ n := by rw [Nat.pow_succ, Nat.mul_comm]
          rcases Nat.lt_or_ge (b / 2) (a % b) with q | q
          · have e9 : b % (a % b) = b - a % b := by
              rw [Nat.mod_eq_sub_mod (by omega), Nat.mod_eq_of_lt (by omega)]
            omega
          · omega
        rw [gcdI, if_neg hb1, hr2, gcd_n n e (a % b) (b % (a % b)) (by omega) (by omega) hhalf]
        rw [gcd_stp (x := b) (y := a % b) rfl, gcd_stp (x := a) (y := b) rfl]
theorem gcd_64 {a b : Nat} (ha : a < 2 ^ 31) (hb : b < 2 ^ 31) : gcdI 64 (nI a) (nI b) = nI (Nat.gcd a b) := gcd_n 31 1 a b ha hb hb
theorem pow_n : ∀ n p, powI 10 n (nI p) = nI (p * 10 ^ n)
  | 0, p => by rw [powI, Nat.pow_zero, Nat.mul_one]
  | n + 1, p => by
    have e : nI p * 10 = nI (p * 10) := pk_mul p 10
    rw [powI, e, pow_n n (p * 10), Nat.pow_succ, Nat.mul_assoc, Nat.mul_comm 10]
