/-! group, for callers; bits counted -/
def p1 (a : Nat) : Nat := a - ((a >>> 1) &&& 1431655765)
def p2 (a : Nat) : Nat := (a &&& 858993459) + ((a >>> 2) &&& 858993459)
def p3 (a : Nat) : Nat := (a + (a >>> 4)) &&& 252645135
def p4 (a : Nat) : Nat := a + (a >>> 8)
def p5 (a : Nat) : Nat := a + (a >>> 16)
def bsN (a : Nat) : Nat → Nat
  | 0 => 0
  | m + 1 => bsN a m + a / 2 ^ m % 2
theorem and256 (a b c d : Nat) (hb : b < 256) (hd : d < 256) : (256 * a + b) &&& (256 * c + d) = 256 * (a &&& c) + (b &&& d) := by
  have m1 := Nat.and_mod_two_pow (a := 256 * a + b) (b := 256 * c + d) (n := 8)
  have m2 := Nat.and_div_two_pow (a := 256 * a + b) (b := 256 * c + d) (n := 8)
  rw [show (2 : Nat) ^ 8 = 256 from rfl] at m1 m2
  rw [show (256 * a + b) % 256 = b by omega, show (256 * c + d) % 256 = d by omega] at m1
  rw [show (256 * a + b) / 256 = a by omega, show (256 * c + d) / 256 = c by omega] at m2
  omega
def f8 (b : Nat) : Nat := b - (b / 2 &&& 85)
def g8 (b : Nat) : Nat := (b &&& 51) + (b / 4 &&& 51)
def h8 (b : Nat) : Nat := (b + b / 16) % 16
theorem by8 : ∀ b, b < 256 → f8 b < 256 ∧ (b / 2 &&& 85) ≤ b ∧ g8 (f8 b) % 16 ≤ 4 ∧ g8 (f8 b) < 69 ∧ h8 (g8 (f8 b)) = bsN b 8 ∧ h8 (g8 (f8 b)) ≤ 8 ∧ ((128 + b / 2) &&& 85) = (b / 2 &&& 85) ∧ ((64 + b / 4) &&& 51) = (b / 4 &&& 51) ∧ ((128 + b / 4) &&& 51) = (b / 4 &&& 51) ∧ ((192 + b / 4) &&& 51) = (b / 4 &&& 51) := by decide +kernel
theorem lo_m {a c d : Nat} (ha : a < 256) (hd : d < 256) : a &&& (256 * c + d) = a &&& d := by
  have := and256 0 a c d ha hd
  rw [Nat.mul_zero, Nat.zero_add, Nat.zero_and, Nat.mul_zero, Nat.zero_add] at this
  exact this
theorem p1_8 {a b : Nat} (ha : a < 256) (hb : b < 256) : p1 (256 * a + b) = 256 * f8 a + f8 b := by
  have qa := by8 a ha
  have qb := by8 b hb
  unfold p1 f8
  rw [Nat.shiftRight_eq_div_pow, show (256 * a + b) / 2 ^ 1 = 256 * (a / 2) + (128 * (a % 2) + b / 2) by omega, show (1431655765 : Nat) = 256 * 5592405 + 85 from rfl, and256 _ _ _ _ (by omega) (by decide), show (5592405 : Nat) = 256 * 21845 + 85 from rfl, lo_m (a := a / 2) (by omega) (by decide)]
  rcases (show a % 2 = 0 ∨ a % 2 = 1 by omega) with e | e
  · rw [e, Nat.mul_zero, Nat.zero_add]; omega
  · rw [e, Nat.mul_one, qb.2.2.2.2.2.2.1]; omega
theorem p2_8 {a b : Nat} (ha : a < 256) (hb : b < 256) : p2 (256 * a + b) = 256 * g8 a + g8 b := by
  have qb := by8 b hb
  unfold p2 g8
  rw [Nat.shiftRight_eq_div_pow, show (256 * a + b) / 2 ^ 2 = 256 * (a / 4) + (64 * (a % 4) + b / 4) by omega, show (858993459 : Nat) = 256 * 3355443 + 51 from rfl, and256 _ _ _ _ hb (by decide), and256 _ _ _ _ (by omega) (by decide), show (3355443 : Nat) = 256 * 13107 + 51 from rfl, lo_m ha (by decide), lo_m (a := a / 4) (by omega) (by decide)]
  rcases (show a % 4 = 0 ∨ a % 4 = 1 ∨ a % 4 = 2 ∨ a % 4 = 3 by omega) with e | e | e | e
  · rw [e, Nat.mul_zero, Nat.zero_add]; omega
  · rw [e, show 64 * 1 + b / 4 = 64 + b / 4 from rfl, qb.2.2.2.2.2.2.2.1]; omega
  · rw [e, show 64 * 2 + b / 4 = 128 + b / 4 from rfl, qb.2.2.2.2.2.2.2.2.1]; omega
  · rw [e, show 64 * 3 + b / 4 = 192 + b / 4 from rfl, qb.2.2.2.2.2.2.2.2.2]; omega
theorem p3_8 {a b : Nat} (ha : a < 69) (hb : b < 69) (ha4 : a % 16 ≤ 4) : p3 (256 * a + b) = 256 * h8 a + h8 b := by
  unfold p3 h8
  rw [Nat.shiftRight_eq_div_pow, show (256 * a + b) + (256 * a + b) / 2 ^ 4 = 256 * (a + a / 16) + (16 * (a % 16) + b + b / 16) by omega, show (252645135 : Nat) = 256 * 986895 + 15 from rfl, and256 _ _ _ _ (by omega) (by decide), show (986895 : Nat) = 256 * 3855 + 15 from rfl, lo_m (by omega) (by decide), show (15 : Nat) = 2 ^ 4 - 1 from rfl, Nat.and_two_pow_sub_one_eq_mod, Nat.and_two_pow_sub_one_eq_mod]
  omega
theorem bs_t {a b : Nat} (hb : b < 256) {m : Nat} (hm : m < 8) : (256 * a + b) / 2 ^ m % 2 = b / 2 ^ m % 2 ∧ (256 * a + b) / 2 ^ (8 + m) % 2 = a / 2 ^ m % 2 := by
  have e : (256 * a + b) / 2 ^ 8 = a := by rw [show (2 : Nat) ^ 8 = 256 from rfl]; omega
  refine ⟨?_, by rw [Nat.pow_add, ← Nat.div_div_eq_div_mul, e]⟩
  rcases (show m = 0 ∨ m = 1 ∨ m = 2 ∨ m = 3 ∨ m = 4 ∨ m = 5 ∨ m = 6 ∨ m = 7 by omega) with e | e | e | e | e | e | e | e <;> subst e
  · rw [show (2 : Nat) ^ 0 = 1 from rfl]; omega
  · rw [show (2 : Nat) ^ 1 = 2 from rfl]; omega
  · rw [show (2 : Nat) ^ 2 = 4 from rfl]; omega
  · rw [show (2 : Nat) ^ 3 = 8 from rfl]; omega
  · rw [show (2 : Nat) ^ 4 = 16 from rfl]; omega
  · rw [show (2 : Nat) ^ 5 = 32 from rfl]; omega
  · rw [show (2 : Nat) ^ 6 = 64 from rfl]; omega
  · rw [show (2 : Nat) ^ 7 = 128 from rfl]; omega
theorem bs_lo8 {a b : Nat} (hb : b < 256) : ∀ m, m ≤ 8 → bsN (256 * a + b) m = bsN b m
  | 0, _ => rfl
  | m + 1, h => by rw [bsN, bsN, bs_lo8 hb m (by omega), (bs_t hb (by omega)).1]
theorem bs_hi8 {a b : Nat} (hb : b < 256) : ∀ m, m ≤ 8 → bsN (256 * a + b) (8 + m) = bsN b 8 + bsN a m
  | 0, _ => bs_lo8 hb 8 (by omega)
  | m + 1, h => by
    have ih := bs_hi8 (a := a) hb m (by omega)
    rw [show 8 + (m + 1) = (8 + m) + 1 by omega, bsN, ih, (bs_t hb (by omega)).2]
    show _ = bsN b 8 + (bsN a m + a / 2 ^ m % 2)
    omega
theorem bs_8 (a b : Nat) (hb : b < 256) : bsN (256 * a + b) 16 = bsN a 8 + bsN b 8 := by
  have := bs_hi8 (a := a) hb 8 (by omega)
  rw [show 8 + 8 = 16 from rfl] at this
  omega
theorem pc_ok {x : Nat} (h : x < 65536) : p5 (p4 (p3 (p2 (p1 x)))) &&& 63 = bsN x 16 := by
  have e : x = 256 * (x / 256) + x % 256 := by omega
  have ha : x / 256 < 256 := by omega
  have hb : x % 256 < 256 := by omega
  generalize x / 256 = a at *
  generalize x % 256 = b at *
  subst e
  have qa := by8 a ha
  have qb := by8 b hb
  rw [p1_8 ha hb, p2_8 qa.1 qb.1, p3_8 qa.2.2.2.1 qb.2.2.2.1 qa.2.2.1, bs_8 a b hb, ← qa.2.2.2.2.1, ← qb.2.2.2.2.1]
  have ua := qa.2.2.2.2.2.1
  have ub := qb.2.2.2.2.2.1
  generalize h8 (g8 (f8 a)) = u at *
  generalize h8 (g8 (f8 b)) = v at *
  unfold p5 p4
  rw [show (63 : Nat) = 2 ^ 6 - 1 from rfl, Nat.and_two_pow_sub_one_eq_mod, Nat.shiftRight_eq_div_pow, Nat.shiftRight_eq_div_pow]
  clear qa qb h ha hb
  have e1 : (256 * u + v) / 2 ^ 8 = u := by rw [show (2 : Nat) ^ 8 = 256 from rfl]; omega
  rw [e1]
  have e2 : (256 * u + v + u) / 2 ^ 16 = 0 := by rw [show (2 : Nat) ^ 16 = 65536 from rfl]; omega
  rw [e2, show (2 : Nat) ^ 6 = 64 from rfl]
  omega
theorem ush (a k : Nat) (h : a < 4294967296) : (a : Int) % 4294967296 / 2 ^ k = ((a >>> k : Nat) : Int) := by
  rw [Nat.shiftRight_eq_div_pow, show (a : Int) % 4294967296 = a by omega, show (2 : Int) ^ k = ((2 ^ k : Nat) : Int) by simp, ← Int.natCast_ediv]
theorem sr_le (a k : Nat) : a >>> k ≤ a := by rw [Nat.shiftRight_eq_div_pow]; exact Nat.div_le_self _ _
theorem an_le (a b : Nat) : a &&& b ≤ a := Nat.and_le_left
theorem iA_m (a b : Nat) (ha : a < 2147483648) (hb : b < 4294967296) : iAnd (a : Int) (b : Int) = ((a &&& b : Nat) : Int) := by
  rw [iAnd_nat ha, Nat.mod_eq_of_lt hb]
theorem pc1 {a : Nat} (h : a < 65536) : (a : Int) - iAnd ((a : Int) % 4294967296 / 2 ^ (1 : Int).toNat) 1431655765 = ((p1 a : Nat) : Int) ∧ p1 a < 65536 := by
  have e1 := sr_le a 1
  have e2 := an_le (a >>> 1) 1431655765
  refine ⟨?_, by unfold p1; omega⟩
  rw [show (1 : Int).toNat = 1 from rfl, ush a 1 (by omega), show (1431655765 : Int) = ((1431655765 : Nat) : Int) from rfl, iA_m _ _ (by omega) (by decide)]
  unfold p1
  omega
theorem pc2 {a : Nat} (h : a < 65536) : iAnd (a : Int) 858993459 + iAnd ((a : Int) % 4294967296 / 2 ^ (2 : Int).toNat) 858993459 = ((p2 a : Nat) : Int) ∧ p2 a < 131072 := by
  have e1 := sr_le a 2
  have e2 := an_le (a >>> 2) 858993459
  have e3 := an_le a 858993459
  refine ⟨?_, by unfold p2; omega⟩
  rw [show (2 : Int).toNat = 2 from rfl, ush a 2 (by omega), show (858993459 : Int) = ((858993459 : Nat) : Int) from rfl, iA_m _ _ (by omega) (by decide), iA_m _ _ (by omega) (by decide)]
  unfold p2
  omega
theorem pc3 {a : Nat} (h : a < 131072) : iAnd ((a : Int) + (a : Int) % 4294967296 / 2 ^ (4 : Int).toNat) 252645135 = ((p3 a : Nat) : Int) ∧ p3 a < 262144 := by
  have e1 := sr_le a 4
  have e2 := an_le (a + a >>> 4) 252645135
  refine ⟨?_, by unfold p3; omega⟩
  rw [show (4 : Int).toNat = 4 from rfl, ush a 4 (by omega), show (252645135 : Int) = ((252645135 : Nat) : Int) from rfl, ← Int.natCast_add, iA_m _ _ (by omega) (by decide)]
  rfl
theorem pc4 {a : Nat} (h : a < 262144) : (a : Int) + (a : Int) % 4294967296 / 2 ^ (8 : Int).toNat = ((p4 a : Nat) : Int) ∧ p4 a < 524288 := by
  have e1 := sr_le a 8
  refine ⟨?_, by unfold p4; omega⟩
  rw [show (8 : Int).toNat = 8 from rfl, ush a 8 (by omega)]
  unfold p4
  omega
theorem pc5 {a : Nat} (h : a < 524288) : (a : Int) + (a : Int) % 4294967296 / 2 ^ (16 : Int).toNat = ((p5 a : Nat) : Int) ∧ p5 a < 1048576 := by
  have e1 := sr_le a 16
  refine ⟨?_, by unfold p5; omega⟩
  rw [show (16 : Int).toNat = 16 from rfl, ush a 16 (by omega)]
  unfold p5
  omega
theorem bs_cnt (p : Nat → Bool) (n : Nat) : ∀ m : Nat, bsN (bN p n) m = bsN (bN p n) m ∧ ((bsN (bN p n) m : Nat) : Int) = sumN (fun i => if i < n ∧ p i.toNat = true then 1 else 0) m
  | 0 => ⟨rfl, rfl⟩
  | m + 1 => by
    have ih := (bs_cnt p n m).2
    refine ⟨rfl, ?_⟩
    have t := bN_tb p n m
    rw [Nat.testBit_eq_decide_div_mod_eq] at t
    rw [bsN, sumN, ← ih]
    have lt : bN p n / 2 ^ m % 2 < 2 := Nat.mod_lt _ (by decide)
    by_cases e : m < n ∧ p m = true
    · rw [if_pos ⟨by omega, by simp only [Int.toNat_natCast]; exact e.2⟩]
      simp [e.1, e.2] at t
      omega
    · rw [if_neg (fun q => e ⟨by omega, by have := q.2; simp only [Int.toNat_natCast] at this; exact this⟩)]
      have : ¬ bN p n / 2 ^ m % 2 = 1 := fun z => by
        rw [z] at t
        simp at t
        exact e t
      omega
theorem ct_bits (home : Int → Int) {n : Int} (g : Int) (n0 : 0 ≤ n) (n1 : n ≤ 16) : ∃ x : Nat, btZ home n g = (x : Int) ∧ x < 65536 ∧ ((bsN x 16 : Nat) : Int) = ctZ home n g := by
  have e : btZ home n g = bP (fun i => decide (home i = g)) n := sumZ_cg (fun i i0 i1 => by
    by_cases z : home i = g
    · rw [if_pos z, if_pos (decide_eq_true z)]
    · rw [if_neg z, if_neg (by rw [decide_eq_true_iff]; exact z)])
  have b := bP_b (fun i => decide (home i = g)) n1
  rw [bP_N] at e b
  refine ⟨_, e, by omega, ?_⟩
  rw [(bs_cnt _ _ 16).2]
  have f : ∀ m : Nat, (m : Int) ≤ n → ∀ d : Nat, sumN (fun i => if i < (n.toNat : Int) ∧ decide (home ((i.toNat : Nat) : Int) = g) = true then 1 else 0) m = sumN (fun i => if home i = g then 1 else 0) m := by
    intro m hm _
    refine sumN_cg m (fun i i0 i1 => ?_)
    rw [show ((i.toNat : Nat) : Int) = i by omega]
    by_cases z : home i = g
    · rw [if_pos z, if_pos ⟨by omega, decide_eq_true z⟩]
    · rw [if_neg z, if_neg (fun q => z (of_decide_eq_true q.2))]
  have h : ∀ m : Nat, n ≤ m → sumN (fun i => if i < (n.toNat : Int) ∧ decide (home ((i.toNat : Nat) : Int) = g) = true then 1 else 0) m = sumN (fun i => if home i = g then 1 else 0) n.toNat := by
    intro m
    induction m with
    | zero => intro z; rw [show n.toNat = 0 by omega]; rfl
    | succ m ih =>
      intro z
      by_cases e : n = ((m + 1 : Nat) : Int)
      · rw [show n.toNat = m + 1 by omega]
        have := f (m + 1) (by omega) 0
        rw [show n.toNat = m + 1 by omega] at this
        exact this
      · rw [sumN, ih (by omega), if_neg (by omega), Int.add_zero]
  exact h 16 (by omega)
set_option maxHeartbeats 4000000 in
set_option maxRecDepth 20000 in
theorem c_bitCount (D : Nat) (M : Mem) (x : Nat) (hx : x < 65536) : CI D 195 [.inl (x : Int)] M (fun v M' => v = ((bsN x 16 : Nat) : Int) ∧ M' = M) := by
  refine mk_C mt_195 rfl (Nat.le_of_ble_eq_true rfl) (L := [some _]) rfl ?_
  refine w_iload_n ta_195 rfl rfl ?_
  refine w_iload_n ta_195 rfl rfl ?_
  refine w_iconst ta_195 rfl ?_
  refine w_iushr ta_195 rfl (by omega) (by omega) ?_
  refine w_ldc_w ta_195 rfl ?_
  refine w_iand ta_195 rfl ?_
  refine w_isub ta_195 rfl ?_
  obtain ⟨q1, b1⟩ := pc1 hx
  rw [q1]
  refine w_istn_0_1 ta_195 rfl ?_
  refine w_iload_n ta_195 rfl rfl ?_
  refine w_ldc_w ta_195 rfl ?_
  refine w_iand ta_195 rfl ?_
  refine w_iload_n ta_195 rfl rfl ?_
  refine w_iconst ta_195 rfl ?_
  refine w_iushr ta_195 rfl (by omega) (by omega) ?_
  refine w_ldc_w ta_195 rfl ?_
  refine w_iand ta_195 rfl ?_
  refine w_iadd ta_195 rfl ?_
  obtain ⟨q2, b2⟩ := pc2 b1
  rw [q2]
  refine w_istn_0_1 ta_195 rfl ?_
  refine w_iload_n ta_195 rfl rfl ?_
  refine w_iload_n ta_195 rfl rfl ?_
  refine w_iconst ta_195 rfl ?_
  refine w_iushr ta_195 rfl (by omega) (by omega) ?_
  refine w_iadd ta_195 rfl ?_
  refine w_ldc_w ta_195 rfl ?_
  refine w_iand ta_195 rfl ?_
  obtain ⟨q3, b3⟩ := pc3 b2
  rw [q3]
  refine w_istn_0_1 ta_195 rfl ?_
  refine w_iload_n ta_195 rfl rfl ?_
  refine w_iload_n ta_195 rfl rfl ?_
  refine w_bipush ta_195 rfl ?_
  refine w_iushr ta_195 rfl (by omega) (by omega) ?_
  refine w_iadd ta_195 rfl ?_
  obtain ⟨q4, b4⟩ := pc4 b3
  rw [q4]
  refine w_istn_0_1 ta_195 rfl ?_
  refine w_iload_n ta_195 rfl rfl ?_
  refine w_iload_n ta_195 rfl rfl ?_
  refine w_bipush ta_195 rfl ?_
  refine w_iushr ta_195 rfl (by omega) (by omega) ?_
  refine w_iadd ta_195 rfl ?_
  obtain ⟨q5, b5⟩ := pc5 b4
  rw [q5]
  refine w_istn_0_1 ta_195 rfl ?_
  refine w_iload_n ta_195 rfl rfl ?_
  refine w_bipush ta_195 rfl ?_
  refine w_iand ta_195 rfl ?_
  refine w_iret ta_195 rfl (Or.inl rfl) ?_
  refine ⟨_, rfl, ?_, rfl⟩
  rw [show (63 : Int) = ((63 : Nat) : Int) from rfl, iA_m _ _ (by omega) (by decide), pc_ok hx]
set_option maxHeartbeats 4000000 in
set_option maxRecDepth 20000 in
theorem c_group (D : Nat) (M : Mem) (hI : PkI 3 M) (x w : Int) (hx : inR x) (hw : inR w) : CI (D + 5) 64 [.inr (.inr 0), .inl x, .inl w] M (fun v M' => v = gpZ x w (M 3 4) (M 3 5) (M 3 6) (M 5) (M 6) ∧ Scr M M') := by
  refine mk_C mt_64 rfl (Nat.le_of_ble_eq_true rfl) (L := [some _, some _, some _]) rfl ?_
  obtain ⟨n0, n1, k0, k1, f0, f1, r0, r1, s0, s1, hA⟩ := pkd_3 hI
  obtain ⟨x0, x1⟩ := id hx
  obtain ⟨w0, w1⟩ := id hw
  refine w_aload_n ta_64 rfl rfl ?_
  refine w_iload_n ta_64 rfl rfl ?_
  refine w_cI [_, _] _ ta_64 rfl rfl rfl mt_91 rfl rfl rfl rfl (Nat.le_of_ble_eq_true rfl) (fun _ => rfl) rfl (c_isGroup _ M hI x hx) ?_
  rintro v M2 ⟨hv, rfl⟩
  refine w_if_ne ta_64 rfl ⟨by omega, by omega⟩ (fun h5 => ?_) (fun h5 => ?_)
  · refine w_iload_n ta_64 rfl rfl ?_
    rcases (show w = 0 ∨ w = 1 ∨ w = 2 ∨ w = 3 ∨ w = 4 ∨ (w < 0 ∨ 4 < w) by omega) with h11 | h11 | h11 | h11 | h11 | h11
    · refine w_tsw 44 ta_64 rfl ⟨by omega, by omega⟩ (by rw [h11]; rfl) ?_
      refine w_aload_n ta_64 rfl rfl ?_
      refine w_getR ta_64 rfl rfl ?_
      refine w_iload_n ta_64 rfl rfl ?_
      refine w_cI [_, _] _ ta_64 rfl rfl rfl mt_17 rfl rfl rfl rfl (Nat.le_of_ble_eq_true rfl) (fun _ => rfl) rfl (c_sumOf_3 _ M2 hI x (by omega) (by omega)) ?_
      rintro s N ⟨hs, hS⟩
      refine w_iret ta_64 rfl (Or.inl rfl) ?_
      refine ⟨_, rfl, ?_, hS.scr⟩
      unfold gpZ
      rw [if_pos (by omega), if_pos (by omega)]
      exact hs
    · refine w_tsw 53 ta_64 rfl ⟨by omega, by omega⟩ (by rw [h11]; rfl) ?_
      refine w_aload_n ta_64 rfl rfl ?_
      refine w_getR ta_64 rfl rfl ?_
      refine w_iload_n ta_64 rfl rfl ?_
      refine w_cI [_, _] _ ta_64 rfl rfl rfl mt_24 rfl rfl rfl rfl (Nat.le_of_ble_eq_true rfl) (fun _ => rfl) rfl (c_bitsOf _ M2 hI x hx) ?_
      rintro s N ⟨hs, rfl⟩
      obtain ⟨y, hy, y1, y2⟩ := ct_bits (N 6) x n0 n1
      rw [hs, hy]
      refine w_cI [_] _ ta_64 rfl rfl rfl mt_195 rfl rfl rfl rfl (Nat.le_of_ble_eq_true rfl) (fun q => by cases q) rfl (c_bitCount _ _ y y1) ?_
      rintro u N2 ⟨hu, rfl⟩
      rw [y2] at hu
      refine w_iret ta_64 rfl (Or.inl rfl) ?_
      refine ⟨_, rfl, ?_, Scr.rf _⟩
      unfold gpZ
      rw [if_pos (by omega), if_neg (by omega), if_pos (by omega)]
      exact hu
    · refine w_tsw 65 ta_64 rfl ⟨by omega, by omega⟩ (by rw [h11]; rfl) ?_
      refine w_aload_n ta_64 rfl rfl ?_
      refine w_getR ta_64 rfl rfl ?_
      refine w_iload_n ta_64 rfl rfl ?_
      refine w_cI [_, _] _ ta_64 rfl rfl rfl mt_25 rfl rfl rfl rfl (Nat.le_of_ble_eq_true rfl) (fun _ => rfl) rfl (c_strongestOf_3 _ M2 hI x hx) ?_
      rintro s N ⟨hs, rfl⟩
      refine w_iret ta_64 rfl (Or.inl rfl) ?_
      refine ⟨_, rfl, ?_, Scr.rf _⟩
      unfold gpZ
      rw [if_pos (by omega), if_neg (by omega), if_neg (by omega), if_pos (by omega)]
      exact hs
    · refine w_tsw 74 ta_64 rfl ⟨by omega, by omega⟩ (by rw [h11]; rfl) ?_
      refine w_aload_n ta_64 rfl rfl ?_
      refine w_getR ta_64 rfl rfl ?_
      refine w_iload_n ta_64 rfl rfl ?_
      refine w_cI [_, _] _ ta_64 rfl rfl rfl mt_24 rfl rfl rfl rfl (Nat.le_of_ble_eq_true rfl) (fun _ => rfl) rfl (c_bitsOf _ M2 hI x hx) ?_
      rintro s N ⟨hs, rfl⟩
      refine w_iret ta_64 rfl (Or.inl rfl) ?_
      refine ⟨_, rfl, ?_, Scr.rf _⟩
      unfold gpZ
      rw [if_pos (by omega), if_neg (by omega), if_neg (by omega), if_neg (by omega), if_pos (by omega)]
      exact hs
    · refine w_tsw 83 ta_64 rfl ⟨by omega, by omega⟩ (by rw [h11]; rfl) ?_
      refine w_aload_n ta_64 rfl rfl ?_
      refine w_getR ta_64 rfl rfl ?_
      refine w_iload_n ta_64 rfl rfl ?_
      refine w_cI [_, _] _ ta_64 rfl rfl rfl mt_26 rfl rfl rfl rfl (Nat.le_of_ble_eq_true rfl) (fun _ => rfl) rfl (c_above _ M2 hI x hx) ?_
      rintro s N ⟨hs, rfl⟩
      refine w_iret ta_64 rfl (Or.inl rfl) ?_
      refine ⟨_, rfl, ?_, Scr.rf _⟩
      unfold gpZ
      rw [if_pos (by omega), if_neg (by omega), if_neg (by omega), if_neg (by omega), if_neg (by omega), if_pos (by omega)]
      exact hs
    · refine w_tsw 92 ta_64 rfl ⟨by omega, by omega⟩ (if_pos h11) ?_
      refine w_iconst ta_64 rfl ?_
      refine w_iret ta_64 rfl (Or.inl rfl) ?_
      refine ⟨_, rfl, ?_, Scr.rf _⟩
      unfold gpZ
      rw [if_pos (by omega), if_neg (by omega), if_neg (by omega), if_neg (by omega), if_neg (by omega), if_neg (by omega)]
  · refine w_iconst ta_64 rfl ?_
    refine w_iret ta_64 rfl (Or.inl rfl) ?_
    refine ⟨_, rfl, ?_, Scr.rf _⟩
    unfold gpZ
    rw [if_neg (by omega)]
