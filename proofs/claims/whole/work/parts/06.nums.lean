/-! ints of the machine and whole numbers -/
theorem oi_t {x : Int} (h : inR x) : (Int32.ofInt x).toInt = x := Int32.toInt_ofInt_of_le (by have := h.1; omega) (by have := h.2; omega)
theorem oi_t64 {x : Int} (h : inR64 x) : (Int64.ofInt x).toInt = x := Int64.toInt_ofInt_of_le (by have := h.1; omega) (by have := h.2; omega)
theorem oi_lt {x y : Int} (hx : inR x) (hy : inR y) : Int32.ofInt x < Int32.ofInt y ↔ x < y := by rw [Int32.lt_iff_toInt_lt, oi_t hx, oi_t hy]
theorem oi_le {x y : Int} (hx : inR x) (hy : inR y) : Int32.ofInt x ≤ Int32.ofInt y ↔ x ≤ y := by rw [Int32.le_iff_toInt_le, oi_t hx, oi_t hy]
theorem oi_eq {x y : Int} (hx : inR x) (hy : inR y) : Int32.ofInt x = Int32.ofInt y ↔ x = y := by rw [← Int32.toInt_inj, oi_t hx, oi_t hy]
theorem oi_0 : (0 : Int32) = Int32.ofInt 0 := by decide
theorem oi_n {i : Int} (h : inR i) : (Int32.ofInt i).toNatClampNeg = i.toNat := by
  show (Int32.ofInt i).toInt.toNat = _
  rw [oi_t h]
theorem oi_in {i : Int} {n : Nat} (h0 : 0 ≤ i) (h : i < n) (hn : n < 2147483648) : vp_in (Int32.ofInt i) n := vp_in_iff.mpr (by rw [oi_t ⟨by omega, by omega⟩]; exact ⟨h0, h⟩)
theorem oi_nI {x : Int} (h : 0 ≤ x) : Int32.ofInt x = nI x.toNat := by
  obtain ⟨n, rfl⟩ := Int.eq_ofNat_of_zero_le h
  show Int32.ofInt (n : Int) = Int32.ofNat n
  apply Int32.toBitVec.inj
  simp
theorem oi_div {x y : Int} (h0 : 0 ≤ x) (h1 : x < 2147483648) (h2 : 0 < y) (h3 : y < 2147483648) : Int32.ofInt x / Int32.ofInt y = Int32.ofInt (x / y) := by
  rw [oi_nI h0, oi_nI (by omega : 0 ≤ y), oi_nI (Int.ediv_nonneg h0 (by omega)), pk_div (by omega) (by omega) (by omega)]
  congr 1
  obtain ⟨a, rfl⟩ := Int.eq_ofNat_of_zero_le h0
  obtain ⟨b, rfl⟩ := Int.eq_ofNat_of_zero_le (show 0 ≤ y by omega)
  simp only [Int.toNat_natCast]
  have e : ((a : Int) / (b : Int)) = ((a / b : Nat) : Int) := by simp
  rw [e, Int.toNat_natCast]
theorem oi_rem {x y : Int} (h0 : 0 ≤ x) (h1 : x < 2147483648) (h2 : 0 < y) (h3 : y < 2147483648) : Int32.ofInt x - Int32.ofInt x / Int32.ofInt y * Int32.ofInt y = Int32.ofInt (x % y) := by
  rw [oi_nI h0, oi_nI (by omega : 0 ≤ y), oi_nI (Int.emod_nonneg x (by omega)), pk_rem (by omega) (by omega) (by omega)]
  congr 1
  obtain ⟨a, rfl⟩ := Int.eq_ofNat_of_zero_le h0
  obtain ⟨b, rfl⟩ := Int.eq_ofNat_of_zero_le (show 0 ≤ y by omega)
  simp only [Int.toNat_natCast]
  have e : ((a : Int) % (b : Int)) = ((a % b : Nat) : Int) := by simp
  rw [e, Int.toNat_natCast]
theorem oi_sl : ∀ n, n < 32 → ((nI n &&& 31).toBitVec.smod 32).toNat = n := by decide +kernel
theorem oi_su : ∀ n, n < 32 → (((nI n).toUInt32 &&& Int32.toUInt32 31).toBitVec % 32).toNat = n := by decide +kernel
theorem oi_bn (x : Int) : (Int32.ofInt x).toBitVec.toNat = (x % 4294967296).toNat := by
  rw [Int32.toBitVec_ofInt, BitVec.toNat_ofInt]
  rfl
theorem oi_binj {a b : Int32} (h : a.toBitVec.toNat = b.toBitVec.toNat) : a = b := Int32.toBitVec.inj (BitVec.eq_of_toNat_eq h)
theorem oi_shl {x y : Int} (h0 : 0 ≤ y) (h1 : y < 32) : Int32.ofInt x <<< (Int32.ofInt y &&& 31) = Int32.ofInt (x * 2 ^ y.toNat) := by
  apply oi_binj
  rw [oi_nI h0, pk_shl _ _ _ (oi_sl y.toNat (by omega)), oi_bn, oi_bn]
  have hp : (0 : Int) ≤ x % 4294967296 := Int.emod_nonneg _ (by decide)
  apply Int.ofNat_inj.mp
  rw [Int.toNat_of_nonneg (Int.emod_nonneg _ (by decide))]
  rw [Int.natCast_emod, Int.natCast_mul, Int.toNat_of_nonneg hp, Int.natCast_pow]
  show (x % 4294967296 * 2 ^ y.toNat) % 4294967296 = _
  rw [Int.mul_emod, Int.emod_emod, ← Int.mul_emod]
theorem oi_shr {x y : Int} (h0 : 0 ≤ y) (h1 : y < 32) : Int32.ofInt x >>> (Int32.ofInt y &&& 31) = Int32.ofInt (x.bmod 4294967296 / 2 ^ y.toNat) := by
  have hb1 : -2147483648 ≤ x.bmod 4294967296 := by have := Int.le_bmod (x := x) (m := 4294967296) (by decide); omega
  have hb2 : x.bmod 4294967296 < 2147483648 := by have := Int.bmod_lt (x := x) (m := 4294967296) (by decide); omega
  have hp : (0 : Int) < 2 ^ y.toNat := Int.pow_pos (by decide)
  apply Int32.toInt_inj.mp
  rw [oi_nI h0, pk_shr _ _ _ (oi_sl y.toNat (by omega)), Int32.toInt_ofInt, oi_t, Int.shiftRight_eq_div_pow]
  · rfl
  · refine ⟨?_, ?_⟩
    · have : -2147483648 * 2 ^ y.toNat ≤ x.bmod 4294967296 := by
        have h3 : (1 : Int) ≤ 2 ^ y.toNat := by omega
        have h4 : -2147483648 * 2 ^ y.toNat ≤ -2147483648 * (1 : Int) := Int.mul_le_mul_of_nonpos_left (by decide) h3
        omega
      exact (Int.le_ediv_iff_mul_le hp).mpr this
    · have h3 : (1 : Int) ≤ 2 ^ y.toNat := by omega
      have : x.bmod 4294967296 < 2147483648 * 2 ^ y.toNat := by
        have h4 : (2147483648 : Int) * 1 ≤ 2147483648 * 2 ^ y.toNat := Int.mul_le_mul_of_nonneg_left h3 (by decide)
        omega
      exact Int.ediv_lt_of_lt_mul hp this
theorem oi_ushr {x y : Int} (h0 : 0 ≤ y) (h1 : y < 32) : ((Int32.ofInt x).toUInt32 >>> ((Int32.ofInt y).toUInt32 &&& Int32.toUInt32 31)).toInt32 = Int32.ofInt (x % 4294967296 / 2 ^ y.toNat) := by
  apply oi_binj
  rw [oi_nI h0, pk_ushr _ _ _ (oi_su y.toNat (by omega)), oi_bn, oi_bn]
  have hp : (0 : Int) ≤ x % 4294967296 := Int.emod_nonneg _ (by decide)
  have hl : x % 4294967296 < 4294967296 := Int.emod_lt_of_pos _ (by decide)
  have h2 : (1 : Int) ≤ 2 ^ y.toNat := by have : (0 : Int) < 2 ^ y.toNat := Int.pow_pos (by decide); omega
  have hd0 : 0 ≤ x % 4294967296 / 2 ^ y.toNat := Int.ediv_nonneg hp (by omega)
  have hd1 : x % 4294967296 / 2 ^ y.toNat ≤ x % 4294967296 := Int.ediv_le_self _ hp
  rw [Int.emod_eq_of_lt hd0 (by omega)]
  apply Int.ofNat_inj.mp
  rw [Int.toNat_of_nonneg hd0, Int.natCast_ediv, Int.toNat_of_nonneg hp, Int.natCast_pow]
  rfl
theorem bin_ok {i : Instr} {x y v : Int} (h : bin2 i x y = some v) :
    (i = .iadd ∧ Int32.ofInt v = Int32.ofInt x + Int32.ofInt y) ∨ (i = .isub ∧ Int32.ofInt v = Int32.ofInt x - Int32.ofInt y) ∨ (i = .imul ∧ Int32.ofInt v = Int32.ofInt x * Int32.ofInt y) ∨
    (i = .iand ∧ Int32.ofInt v = Int32.ofInt x &&& Int32.ofInt y) ∨ (i = .ior ∧ Int32.ofInt v = Int32.ofInt x ||| Int32.ofInt y) ∨
    (i = .idiv ∧ ¬ Int32.ofInt y = 0 ∧ Int32.ofInt v = Int32.ofInt x / Int32.ofInt y) ∨ (i = .irem ∧ ¬ Int32.ofInt y = 0 ∧ Int32.ofInt v = Int32.ofInt x - Int32.ofInt x / Int32.ofInt y * Int32.ofInt y) ∨
    (i = .ishl ∧ Int32.ofInt v = Int32.ofInt x <<< (Int32.ofInt y &&& 31)) ∨ (i = .ishr ∧ Int32.ofInt v = Int32.ofInt x >>> (Int32.ofInt y &&& 31)) ∨ (i = .iushr ∧ ((Int32.ofInt x).toUInt32 >>> ((Int32.ofInt y).toUInt32 &&& Int32.toUInt32 31)).toInt32 = Int32.ofInt v) := by
  unfold bin2 at h
  have ne : 0 < y → y < 2147483648 → ¬ Int32.ofInt y = 0 := fun h1 h2 e => by
    rw [oi_0, oi_eq ⟨by omega, by omega⟩ ⟨by omega, by omega⟩] at e
    omega
  split at h
  · cases h; exact Or.inl ⟨rfl, Int32.ofInt_add _ _⟩
  · cases h; exact Or.inr (Or.inl ⟨rfl, Int32.ofInt_sub _ _⟩)
  · cases h; exact Or.inr (Or.inr (Or.inl ⟨rfl, Int32.ofInt_mul _ _⟩))
  · cases h; exact Or.inr (Or.inr (Or.inr (Or.inl ⟨rfl, Int32.ofInt_toInt _⟩)))
  · cases h; exact Or.inr (Or.inr (Or.inr (Or.inr (Or.inl ⟨rfl, Int32.ofInt_toInt _⟩))))
  · split at h
    · rename_i hc
      cases h; exact Or.inr (Or.inr (Or.inr (Or.inr (Or.inr (Or.inl ⟨rfl, ne hc.2.2.1 hc.2.2.2, (oi_div hc.1 hc.2.1 hc.2.2.1 hc.2.2.2).symm⟩)))))
    · cases h
  · split at h
    · rename_i hc
      cases h; exact Or.inr (Or.inr (Or.inr (Or.inr (Or.inr (Or.inr (Or.inl ⟨rfl, ne hc.2.2.1 hc.2.2.2, (oi_rem hc.1 hc.2.1 hc.2.2.1 hc.2.2.2).symm⟩))))))
    · cases h
  · split at h
    · rename_i hc
      cases h; exact Or.inr (Or.inr (Or.inr (Or.inr (Or.inr (Or.inr (Or.inr (Or.inl ⟨rfl, (oi_shl hc.1 hc.2).symm⟩)))))))
    · cases h
  · split at h
    · rename_i hc
      cases h; exact Or.inr (Or.inr (Or.inr (Or.inr (Or.inr (Or.inr (Or.inr (Or.inr (Or.inl ⟨rfl, (oi_shr hc.1 hc.2).symm⟩))))))))
    · cases h
  · split at h
    · rename_i hc
      cases h; exact Or.inr (Or.inr (Or.inr (Or.inr (Or.inr (Or.inr (Or.inr (Or.inr (Or.inr ⟨rfl, oi_ushr hc.1 hc.2⟩))))))))
    · cases h
  · cases h
theorem un_ok {i : Instr} {x v : Int} (h : un1 i x = some v) : (i = .ineg ∧ Int32.ofInt v = -Int32.ofInt x) ∨ (i = .i2b ∧ (Int32.ofInt x).toInt8.toInt32 = Int32.ofInt v) ∨ (i = .i2s ∧ (Int32.ofInt x).toInt16.toInt32 = Int32.ofInt v) := by
  unfold un1 at h
  split at h
  · cases h; exact Or.inl ⟨rfl, Int32.ofInt_neg _⟩
  · cases h
    refine Or.inr (Or.inl ⟨rfl, ?_⟩)
    apply Int32.toInt_inj.mp
    have h1 := Int.le_bmod (x := x) (m := 256) (by decide)
    have h2 := Int.bmod_lt (x := x) (m := 256) (by decide)
    rw [Int8.toInt_toInt32, Int32.toInt_toInt8, oi_t (x := x.bmod 256) ⟨by omega, by omega⟩, Int32.toInt_ofInt]
    exact Int.bmod_bmod_of_dvd (show (256 : Nat) ∣ 4294967296 by decide)
  · cases h
    refine Or.inr (Or.inr ⟨rfl, ?_⟩)
    apply Int32.toInt_inj.mp
    have h1 := Int.le_bmod (x := x) (m := 65536) (by decide)
    have h2 := Int.bmod_lt (x := x) (m := 65536) (by decide)
    rw [Int16.toInt_toInt32, Int32.toInt_toInt16, oi_t (x := x.bmod 65536) ⟨by omega, by omega⟩, Int32.toInt_ofInt]
    exact Int.bmod_bmod_of_dvd (show (65536 : Nat) ∣ 4294967296 by decide)
  · cases h
