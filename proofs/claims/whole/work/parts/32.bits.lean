/-! bits of cells -/
def bN (p : Nat → Bool) : Nat → Nat
  | 0 => 0
  | n + 1 => bN p n + if p n then 2 ^ n else 0
theorem bN_lt (p : Nat → Bool) : ∀ n, bN p n < 2 ^ n
  | 0 => Nat.one_pos
  | n + 1 => by
    have := bN_lt p n
    rw [bN, Nat.pow_succ]
    split <;> omega
theorem bN_tb (p : Nat → Bool) : ∀ n i, (bN p n).testBit i = (decide (i < n) && p i)
  | 0, i => by simp [bN]
  | n + 1, i => by
    have ih := bN_tb p n i
    have hl := bN_lt p n
    rw [bN]
    cases hp : p n
    · simp only [Bool.false_eq_true, if_false, Nat.add_zero]
      rw [ih]
      by_cases e : i = n
      · subst e; simp [hp]
      · have : decide (i < n) = decide (i < n + 1) := by
          apply decide_eq_decide.mpr; omega
        rw [this]
    · simp only [if_true]
      have e1 : bN p n + 2 ^ n = 2 ^ n * 1 + bN p n := by omega
      rw [e1, Nat.two_pow_add_eq_or_of_lt hl 1, Nat.testBit_or, ih, Nat.mul_one, Nat.testBit_two_pow]
      by_cases e : n = i
      · subst e; simp [hp]
      · have : decide (i < n) = decide (i < n + 1) := by
          apply decide_eq_decide.mpr; omega
        rw [this]
        simp [e]
/-- the bits of the cells below n that p takes -/
def bP (p : Int → Bool) (n : Int) : Int := sumZ (fun i => if p i then 2 ^ i.toNat else 0) n
theorem sumN_bN (p : Int → Bool) : ∀ n : Nat, sumN (fun i => if p i then 2 ^ i.toNat else 0) n = ((bN (fun i => p i) n : Nat) : Int)
  | 0 => rfl
  | n + 1 => by
    rw [sumN, sumN_bN p n, bN]
    simp only [Int.toNat_natCast]
    split <;> simp
theorem bP_N (p : Int → Bool) (n : Int) : bP p n = ((bN (fun i => p i) n.toNat : Nat) : Int) := sumN_bN p _
theorem bP_b (p : Int → Bool) {n : Int} (hn : n ≤ 16) : 0 ≤ bP p n ∧ bP p n < 65536 := by
  rw [bP_N]
  have h := bN_lt (fun i => p i) n.toNat
  have h2 : 2 ^ n.toNat ≤ 2 ^ 16 := Nat.pow_le_pow_right (by decide) (by omega)
  omega
theorem bP_cg {p q : Int → Bool} {n : Int} (h : ∀ i, 0 ≤ i → i < n → p i = q i) : bP p n = bP q n := sumZ_cg (fun i h0 h1 => by rw [h i h0 h1])
theorem bN_ext {a : Nat} (p : Nat → Bool) (n : Nat) (h : ∀ i, a.testBit i = (decide (i < n) && p i)) : a = bN p n := Nat.eq_of_testBit_eq fun i => by rw [h, bN_tb]
theorem iAnd_nat {a b : Nat} (ha : a < 2147483648) : iAnd a b = ((a &&& (b % 4294967296) : Nat) : Int) := by
  unfold iAnd
  have hA : (a &&& (b % 4294967296)) ≤ a := Nat.and_le_left
  have e : Int32.ofInt (a : Int) &&& Int32.ofInt (b : Int) = Int32.ofInt ((a &&& (b % 4294967296) : Nat) : Int) := by
    apply Int32.toBitVec_inj.mp
    rw [Int32.toBitVec_and]
    apply BitVec.eq_of_toNat_eq
    simp only [BitVec.toNat_and, Int32.toBitVec_ofInt, BitVec.ofInt_natCast, BitVec.toNat_ofNat]
    rw [Nat.mod_eq_of_lt (show a < 2 ^ 32 by omega), Nat.mod_eq_of_lt (show (a &&& (b % 4294967296)) < 2 ^ 32 by omega)]
  rw [e, oi_t ⟨by omega, by omega⟩]
theorem iOr_nat {a b : Nat} (ha : a < 65536) (hb : b < 65536) : iOr a b = ((a ||| b : Nat) : Int) := by
  unfold iOr
  have h : a ||| b < 2 ^ 16 := Nat.or_lt_two_pow ha hb
  rw [oI_or, oi_t ⟨by omega, by omega⟩]
theorem bP_or (p q : Int → Bool) {n : Int} (hn : n ≤ 16) : iOr (bP p n) (bP q n) = bP (fun i => p i || q i) n := by
  rw [bP_N, bP_N, bP_N]
  have h1 := bN_lt (fun i => p i) n.toNat
  have h2 := bN_lt (fun i => q i) n.toNat
  have h3 : 2 ^ n.toNat ≤ 2 ^ 16 := Nat.pow_le_pow_right (by decide) (by omega)
  rw [iOr_nat (by omega) (by omega)]
  congr 1
  apply bN_ext
  intro i
  rw [Nat.testBit_or, bN_tb, bN_tb]
  cases decide (i < n.toNat) <;> simp
theorem iAnd_1 (z : Int) : iAnd z 1 = z % 2 := by
  unfold iAnd
  rw [pk_and (Int32.ofInt z) (m := Int32.ofInt 1) 1 (by decide), oi_bn]
  have h0 : (0 : Int) ≤ z % 4294967296 := Int.emod_nonneg _ (by decide)
  have e : (((z % 4294967296).toNat % 2 ^ 1 : Nat) : Int) = z % 2 := by
    rw [Int.natCast_emod, Int.toNat_of_nonneg h0]
    show z % 4294967296 % 2 = z % 2
    omega
  have b : (z % 4294967296).toNat % 2 ^ 1 < 2 := Nat.mod_lt _ (by decide)
  rw [nI_toInt (by omega), e]
theorem bP_bit (p : Int → Bool) {n i : Int} (hn : n ≤ 16) (i0 : 0 ≤ i) (i1 : i < n) : iAnd ((bP p n).bmod 4294967296 / 2 ^ i.toNat) 1 = if p i then 1 else 0 := by
  have b := bP_b p hn
  rw [show (bP p n).bmod 4294967296 = bP p n by rw [Int.bmod_def]; split <;> omega, iAnd_1, bP_N]
  have t := bN_tb (fun i => p i) n.toNat i.toNat
  rw [Nat.testBit_eq_decide_div_mod_eq] at t
  rw [show ((i.toNat : Nat) : Int) = i by omega] at t
  rw [show (2 : Int) ^ i.toNat = ((2 ^ i.toNat : Nat) : Int) by simp, ← Int.natCast_ediv, show (2 : Int) = ((2 : Nat) : Int) from rfl, ← Int.natCast_emod]
  cases hp : p i
  · rw [hp] at t
    simp at t
    simp [t]
  · rw [hp] at t
    have : i.toNat < n.toNat := by omega
    simp [this] at t
    simp [t]
theorem and_pow0 (a i : Nat) : a &&& 2 ^ i = 0 ↔ a.testBit i = false := by
  constructor
  · intro h
    have q : (a &&& 2 ^ i).testBit i = false := by rw [h]; exact Nat.zero_testBit i
    rw [Nat.testBit_and, Nat.testBit_two_pow_self, Bool.and_true] at q
    exact q
  · intro h
    apply Nat.eq_of_testBit_eq
    intro j
    rw [Nat.testBit_and, Nat.zero_testBit, Nat.testBit_two_pow]
    by_cases e : i = j
    · subst e; rw [h]; rfl
    · simp [e]
theorem bP_has (p : Int → Bool) {n i : Int} (hn : n ≤ 16) (i0 : 0 ≤ i) (i1 : i < n) : iAnd (bP p n) (1 * 2 ^ i.toNat) = 0 ↔ p i = false := by
  rw [bP_N, Int.one_mul, show (2 : Int) ^ i.toNat = ((2 ^ i.toNat : Nat) : Int) by simp]
  have h1 := bN_lt (fun i => p i) n.toNat
  have h3 : 2 ^ n.toNat ≤ 2 ^ 16 := Nat.pow_le_pow_right (by decide) (by omega)
  have h4 : 2 ^ i.toNat ≤ 2 ^ 16 := Nat.pow_le_pow_right (by decide) (by omega)
  have t := and_pow0 (bN (fun i => p i) n.toNat) i.toNat
  rw [bN_tb, show ((i.toNat : Nat) : Int) = i by omega, show decide (i.toNat < n.toNat) = true from decide_eq_true (by omega), Bool.true_and] at t
  rw [iAnd_nat (by omega), Nat.mod_eq_of_lt (by omega), ← t]
  omega
/-- the lowest bit -/
def lwP (p : Int → Bool) (n : Int) : Int := iAnd (bP p n) (-(bP p n))
theorem lw_e (a : Nat) (ha : a < 65536) : iAnd a (-a) = (((BitVec.ofNat 32 a) &&& (-(BitVec.ofNat 32 a))).toNat : Int) := by
  have hA : ((BitVec.ofNat 32 a) &&& (-(BitVec.ofNat 32 a))).toNat ≤ (BitVec.ofNat 32 a).toNat := by
    rw [BitVec.toNat_and]; exact Nat.and_le_left
  have hB : (BitVec.ofNat 32 a).toNat = a := by
    rw [BitVec.toNat_ofNat]; exact Nat.mod_eq_of_lt (by omega)
  unfold iAnd
  have e : Int32.ofInt (a : Int) &&& Int32.ofInt (-(a : Int)) = Int32.ofInt (((BitVec.ofNat 32 a) &&& (-(BitVec.ofNat 32 a))).toNat : Int) := by
    apply Int32.toBitVec_inj.mp
    rw [Int32.toBitVec_and, Int32.toBitVec_ofInt, Int32.toBitVec_ofInt, Int32.toBitVec_ofInt, BitVec.ofInt_neg, BitVec.ofInt_natCast, BitVec.ofInt_natCast]
    apply BitVec.eq_of_toNat_eq
    rw [BitVec.toNat_ofNat, Nat.mod_eq_of_lt (by omega)]
  rw [e, oi_t ⟨by omega, by omega⟩]
theorem lwP_b (p : Int → Bool) {n : Int} (hn : n ≤ 16) : 0 ≤ lwP p n ∧ lwP p n < 65536 := by
  have b := bP_b p hn
  unfold lwP
  rw [bP_N] at *
  have hA : ((BitVec.ofNat 32 (bN (fun i => p i) n.toNat)) &&& (-(BitVec.ofNat 32 (bN (fun i => p i) n.toNat)))).toNat ≤ (BitVec.ofNat 32 (bN (fun i => p i) n.toNat)).toNat := by
    rw [BitVec.toNat_and]; exact Nat.and_le_left
  have hB : (BitVec.ofNat 32 (bN (fun i => p i) n.toNat)).toNat = bN (fun i => p i) n.toNat := by
    rw [BitVec.toNat_ofNat]; exact Nat.mod_eq_of_lt (by omega)
  rw [lw_e _ (by omega)]
  omega
theorem lw_bit {a i : Nat} (h : ((BitVec.ofNat 32 a) &&& (-(BitVec.ofNat 32 a))).toNat.testBit i = true) : a.testBit i = true := by
  rw [BitVec.toNat_and, Nat.testBit_and, BitVec.toNat_ofNat] at h
  have h := (Bool.and_eq_true _ _ ▸ h).1
  rw [Nat.testBit_mod_two_pow] at h
  exact (Bool.and_eq_true _ _ ▸ h).2
theorem lw_pos {a i : Nat} (hi : i < 32) (h : a.testBit i = true) (hl : ∀ j, j < i → a.testBit j = false) : ((BitVec.ofNat 32 a) &&& (-(BitVec.ofNat 32 a))).toNat.testBit i = true := by
  have g : ∀ j, j < 32 → (BitVec.ofNat 32 a).getLsbD j = a.testBit j := fun j hj => by rw [BitVec.getLsbD_ofNat]; simp [hj]
  show ((BitVec.ofNat 32 a) &&& (-(BitVec.ofNat 32 a))).getLsbD i = true
  rw [BitVec.getLsbD_and, BitVec.getLsbD_neg, g i hi, h]
  have : ¬ ∃ j, j < i ∧ (BitVec.ofNat 32 a).getLsbD j = true := by
    rintro ⟨j, hj, hb⟩
    rw [g j (by omega), hl j hj] at hb
    cases hb
  simp [hi, this]
theorem bP_ne {p : Int → Bool} {n i : Int} (i0 : 0 ≤ i) (i1 : i < n) (h : p i = true) : (bN (fun i => p i) n.toNat).testBit i.toNat = true := by
  rw [bN_tb, show ((i.toNat : Nat) : Int) = i by omega, h]
  simp
  omega
theorem lst_ex (a : Nat) : ∀ i, a.testBit i = true → ∃ m, m ≤ i ∧ a.testBit m = true ∧ ∀ j, j < m → a.testBit j = false := by
  intro i
  induction i using Nat.strongRecOn with
  | _ i ih =>
    intro h
    by_cases e : ∃ j, j < i ∧ a.testBit j = true
    · obtain ⟨j, hj, hb⟩ := e
      obtain ⟨m, h1, h2, h3⟩ := ih j hj hb
      exact ⟨m, by omega, h2, h3⟩
    · refine ⟨i, Nat.le_refl _, h, fun j hj => ?_⟩
      cases hb : a.testBit j
      · rfl
      · exact absurd ⟨j, hj, hb⟩ e
/-- a bundle that has a cell has a lowest bit -/
theorem lwP_pos {p : Int → Bool} {n i : Int} (hn : n ≤ 16) (i0 : 0 ≤ i) (i1 : i < n) (h : p i = true) : 0 < lwP p n := by
  have b := lwP_b p hn
  have bb := bP_b p hn
  have t := bP_ne i0 i1 h
  obtain ⟨m, m0, m1, m2⟩ := lst_ex _ _ t
  have q := lw_pos (by omega) m1 m2
  unfold lwP at b ⊢
  rw [bP_N] at b bb ⊢
  rw [lw_e _ (by omega)] at b ⊢
  by_cases e : (BitVec.ofNat 32 (bN (fun i => p i) n.toNat) &&& -BitVec.ofNat 32 (bN (fun i => p i) n.toNat)).toNat = 0
  · rw [e] at q; simp at q
  · omega
theorem lwP_0 {p : Int → Bool} {n : Int} (h : ∀ i, 0 ≤ i → i < n → p i = false) : bP p n = 0 ∧ lwP p n = 0 := by
  have e : bP p n = 0 := by
    rw [show bP p n = sumZ (fun _ => 0) n from sumZ_cg (fun i h0 h1 => by rw [h i h0 h1]; rfl)]
    exact sumZ_c0 n
  refine ⟨e, ?_⟩
  unfold lwP
  rw [e]
  decide
/-- alike lowest bits: a cell in both -/
theorem lwP_both {p q : Int → Bool} {n : Int} (hn : n ≤ 16) (h : lwP p n = lwP q n) (h0 : 0 < lwP p n) : ∃ i, 0 ≤ i ∧ i < n ∧ p i = true ∧ q i = true := by
  have b1 := bP_b p hn
  have b2 := bP_b q hn
  unfold lwP at h h0
  rw [bP_N] at h h0 b1
  rw [bP_N q] at h b2
  rw [lw_e _ (by omega)] at h h0
  rw [lw_e _ (by omega)] at h
  have e : (BitVec.ofNat 32 (bN (fun i => p i) n.toNat) &&& -BitVec.ofNat 32 (bN (fun i => p i) n.toNat)).toNat = (BitVec.ofNat 32 (bN (fun i => q i) n.toNat) &&& -BitVec.ofNat 32 (bN (fun i => q i) n.toNat)).toNat := by omega
  obtain ⟨i, hi⟩ := Nat.exists_testBit_of_ne_zero (show (BitVec.ofNat 32 (bN (fun i => p i) n.toNat) &&& -BitVec.ofNat 32 (bN (fun i => p i) n.toNat)).toNat ≠ 0 by omega)
  have h1 := lw_bit hi
  rw [e] at hi
  have h2 := lw_bit hi
  rw [bN_tb] at h1 h2
  simp at h1 h2
  exact ⟨i, by omega, by omega, h1.2, h2.2⟩
