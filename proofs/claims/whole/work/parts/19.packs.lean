/-! a pack: what changes it -/
theorem oI_or (a b : Nat) : Int32.ofInt (a : Int) ||| Int32.ofInt (b : Int) = Int32.ofInt ((a ||| b : Nat) : Int) := by
  rw [oi_nI (by omega), oi_nI (by omega), oi_nI (by omega)]
  simp only [Int.toNat_natCast]
  apply Int32.toBitVec_inj.1
  show BitVec.ofNat 32 a ||| BitVec.ofNat 32 b = BitVec.ofNat 32 (a ||| b)
  apply BitVec.eq_of_getLsbD_eq
  intro i hi
  simp [hi]
/-- 'or' with a bit above all others -/
theorem iOr_pow {x i : Int} (h0 : 0 ≤ x) (h1 : x < 2 ^ i.toNat) (hi : i.toNat < 31) : iOr x (1 * 2 ^ i.toNat) = x + 2 ^ i.toNat := by
  obtain ⟨a, rfl⟩ := Int.eq_ofNat_of_zero_le h0
  generalize i.toNat = k at *
  have ha : a < 2 ^ k := by exact_mod_cast h1
  have e : ((1 : Int) * 2 ^ k) = ((2 ^ k : Nat) : Int) := by rw [Int.one_mul]; simp
  have e3 : (2 : Nat) ^ k * 1 + a = 2 ^ k * 1 ||| a := Nat.two_pow_add_eq_or_of_lt ha 1
  have h3 : 2 ^ k ≤ 2 ^ 30 := Nat.pow_le_pow_right (by decide) (by omega)
  unfold iOr
  rw [e, oI_or, Nat.or_comm, ← Nat.mul_one (2 ^ k), ← e3, oi_t ⟨by omega, by omega⟩]
  rw [Nat.mul_one]
  have e4 : ((2 ^ k : Nat) : Int) = (2 : Int) ^ k := by simp
  omega
theorem pow_s {i : Int} (h : 0 ≤ i) : (2 : Int) ^ (i + 1).toNat = 2 * 2 ^ i.toNat := by
  rw [show (i + 1).toNat = i.toNat + 1 by omega, Int.pow_succ, Int.mul_comm]
theorem pow_p (n : Nat) : (1 : Int) ≤ 2 ^ n := by have : (0 : Int) < 2 ^ n := Int.pow_pos (by decide); omega
theorem btZ_s (home : Int → Int) {i : Int} (g : Int) (h : 0 ≤ i) : btZ home (i + 1) g = btZ home i g + if home i = g then 2 ^ i.toNat else 0 := sumZ_s _ h
theorem btZ_b (home : Int → Int) (g : Int) : ∀ n : Nat, 0 ≤ btZ home n g ∧ btZ home n g < 2 ^ n
  | 0 => ⟨Int.le_refl _, by show (0 : Int) < 1; omega⟩
  | n + 1 => by
    have ih := btZ_b home g n
    have e := btZ_s home (i := n) g (by omega)
    have e2 : (2 : Int) ^ (n + 1) = 2 * 2 ^ n := by rw [Int.pow_succ, Int.mul_comm]
    rw [show ((n + 1 : Nat) : Int) = (n : Int) + 1 by omega, e, e2]
    simp only [Int.toNat_natCast]
    have := pow_p n
    split <;> omega
theorem btZ_bz (home : Int → Int) {n : Int} (g : Int) (h : 0 ≤ n) : 0 ≤ btZ home n g ∧ btZ home n g < 2 ^ n.toNat := by
  have := btZ_b home g n.toNat
  rw [show ((n.toNat : Nat) : Int) = n by omega] at this
  exact this
theorem ctZ_s (home : Int → Int) {i : Int} (g : Int) (h : 0 ≤ i) : ctZ home (i + 1) g = ctZ home i g + if home i = g then 1 else 0 := sumZ_s _ h
theorem ctZ_bt (home : Int → Int) (g : Int) : ∀ n : Nat, 0 ≤ ctZ home n g ∧ (ctZ home n g = 0 ↔ btZ home n g = 0)
  | 0 => ⟨Int.le_refl _, Iff.rfl⟩
  | n + 1 => by
    have ih := ctZ_bt home g n
    have b := btZ_b home g n
    have e := btZ_s home (i := n) g (by omega)
    have e1 := ctZ_s home (i := n) g (by omega)
    rw [show ((n + 1 : Nat) : Int) = (n : Int) + 1 by omega, e, e1]
    simp only [Int.toNat_natCast]
    have := pow_p n
    split <;> omega
theorem ctZ_btz (home : Int → Int) {n : Int} (g : Int) (h : 0 ≤ n) : 0 ≤ ctZ home n g ∧ (ctZ home n g = 0 ↔ btZ home n g = 0) := by
  have := ctZ_bt home g n.toNat
  rw [show ((n.toNat : Nat) : Int) = n by omega] at this
  exact this
def egZ (home : Int → Int) (n k : Int) : Int := sumZ (fun g => if ctZ home n g = 0 then 1 else 0) k
/-- a copy of a pack -/
def CpP (d q : Nat) (M M' : Mem) : Prop := (∀ c, c ≠ d → c ≠ d + 1 → c ≠ d + 2 → c ≠ d + 3 → M' c = M c) ∧ (∀ j, 4 ≤ j → j ≤ 8 → M' d j = M q j) ∧ ∀ i, 0 ≤ i → i < 16 → M' (d + 1) i = M (q + 1) i ∧ M' (d + 2) i = M (q + 2) i ∧ M' (d + 3) i = M (q + 3) i
/-- a cell more -/
def ApP (p : Nat) (v g : Int) (M M' : Mem) : Prop := (∀ c, c ≠ p → c ≠ p + 1 → c ≠ p + 2 → c ≠ p + 3 → M' c = M c) ∧ M' p = upI (M p) 4 (M p 4 + 1) ∧ M' (p + 1) = upI (M (p + 1)) (M p 4) v ∧ M' (p + 2) = upI (M (p + 2)) (M p 4) v ∧ M' (p + 3) = upI (M (p + 3)) (M p 4) g
/-- cell i goes: those from i + 1 below j have moved -/
def shF (f : Int → Int) (i j : Int) : Int → Int := fun x => if i ≤ x ∧ x < j - 1 then f (x + 1) else f x
theorem shF_0 (f : Int → Int) (i : Int) : shF f i (i + 1) = f := by funext x; exact if_neg (by omega)
theorem shF_s (f : Int → Int) {i j : Int} (h : i < j) : upI (shF f i j) (j - 1) (shF f i j j) = shF f i (j + 1) := by
  funext x
  have e : shF f i j j = f j := if_neg (by omega)
  rw [e]
  unfold upI shF
  by_cases h1 : x = j - 1
  · rw [if_pos h1, if_pos (by omega), h1, show j - 1 + 1 = j by omega]
  · rw [if_neg h1]
    by_cases h2 : i ≤ x ∧ x < j - 1
    · rw [if_pos h2, if_pos (by omega)]
    · rw [if_neg h2, if_neg (by omega)]
/-- sums behind an exchange -/
def EX (s home has : Int → Int) (i j : Int) : Int → Int := upI (upI s (home i) (s (home i) + (has j - has i))) (home j) (upI s (home i) (s (home i) + (has j - has i)) (home j) + (has i - has j))
theorem EX_cg {s s' home has : Int → Int} {i j : Int} (h : ∀ g, 0 ≤ g → g < 5 → s g = s' g) (hi : 0 ≤ home i ∧ home i < 5) (hj : 0 ≤ home j ∧ home j < 5) : ∀ g, 0 ≤ g → g < 5 → EX s home has i j g = EX s' home has i j g := by
  intro g h0 h1
  unfold EX upI
  rw [h _ hi.1 hi.2, h _ hj.1 hj.2, h g h0 h1]
theorem EX_b {s home has : Int → Int} {i j a b : Int} (h : ∀ g, 0 ≤ g → g < 5 → a ≤ s g ∧ s g ≤ b) (hi : 0 ≤ home i ∧ home i < 5) (hj : 0 ≤ home j ∧ home j < 5) (hb : 0 ≤ has i ∧ has i ≤ 999 ∧ 0 ≤ has j ∧ has j ≤ 999) : ∀ g, 0 ≤ g → g < 5 → a - 2000 ≤ EX s home has i j g ∧ EX s home has i j g ≤ b + 2000 := by
  intro g h0 h1
  have q1 := h _ hi.1 hi.2
  have q2 := h _ hj.1 hj.2
  have q3 := h g h0 h1
  unfold EX upI
  repeat' split
  all_goals omega
/-- a tick, group by group -/
def tkC (home h : Int → Int) (n fl g : Int) : Prop := stZ home h n g ≠ -4 ∧ fl < h (stZ home h n g)
def tkF (home : Int → Int) (n fl rt : Int) (h : Int → Int) (g : Int) : Int → Int := if stZ home h n g ≠ -4 ∧ fl < h (stZ home h n g) then upI h (stZ home h n g) (if fl < h (stZ home h n g) - rt then h (stZ home h n g) - rt else fl) else h
def tkB (home : Int → Int) (n fl : Int) (h : Int → Int) (g : Int) : Int := if stZ home h n g ≠ -4 ∧ fl < h (stZ home h n g) then 1 else 0
def tHN (home : Int → Int) (n fl rt lim : Int) (s h : Int → Int) : Nat → (Int → Int)
  | 0 => h
  | g + 1 => if lim < s g then tkF home n fl rt (tHN home n fl rt lim s h g) g else tHN home n fl rt lim s h g
def tAN (home : Int → Int) (n fl rt lim : Int) (s h : Int → Int) : Nat → Int
  | 0 => 0
  | g + 1 => if lim < s g ∧ tkB home n fl (tHN home n fl rt lim s h g) g = 1 then 1 else tAN home n fl rt lim s h g
def tH (home : Int → Int) (n fl rt lim : Int) (s h : Int → Int) (k : Int) : Int → Int := tHN home n fl rt lim s h k.toNat
def tA (home : Int → Int) (n fl rt lim : Int) (s h : Int → Int) (k : Int) : Int := tAN home n fl rt lim s h k.toNat
theorem tH_s (home : Int → Int) (n fl rt lim : Int) (s h : Int → Int) {g : Int} (g0 : 0 ≤ g) : tH home n fl rt lim s h (g + 1) = if lim < s g then tkF home n fl rt (tH home n fl rt lim s h g) g else tH home n fl rt lim s h g := by
  obtain ⟨m, rfl⟩ := Int.eq_ofNat_of_zero_le g0
  rfl
theorem tA_s (home : Int → Int) (n fl rt lim : Int) (s h : Int → Int) {g : Int} (g0 : 0 ≤ g) : tA home n fl rt lim s h (g + 1) = if lim < s g ∧ tkB home n fl (tH home n fl rt lim s h g) g = 1 then 1 else tA home n fl rt lim s h g := by
  obtain ⟨m, rfl⟩ := Int.eq_ofNat_of_zero_le g0
  rfl
theorem tkF_b {home h : Int → Int} {n fl rt g : Int} (f0 : 0 ≤ fl) (r0 : 0 ≤ rt) (hb : ∀ i, 0 ≤ i → i < n → 0 ≤ h i ∧ h i ≤ 999) (n0 : 0 ≤ n) : ∀ i, 0 ≤ i → i < n → 0 ≤ tkF home n fl rt h g i ∧ tkF home n fl rt h g i ≤ 999 := by
  intro i h0 h1
  have q := hb i h0 h1
  unfold tkF
  split
  · rename_i hc
    rcases stZ_b home h g n0 with b | b
    · exact absurd b hc.1
    · have q2 := hb _ b.1 b.2.1
      unfold upI
      split
      · split <;> omega
      · exact q
  · exact q
theorem tHN_b {home h s : Int → Int} {n fl rt lim : Int} (f0 : 0 ≤ fl) (r0 : 0 ≤ rt) (hb : ∀ i, 0 ≤ i → i < n → 0 ≤ h i ∧ h i ≤ 999) (n0 : 0 ≤ n) : ∀ (g : Nat) (i : Int), 0 ≤ i → i < n → 0 ≤ tHN home n fl rt lim s h g i ∧ tHN home n fl rt lim s h g i ≤ 999
  | 0 => hb
  | g + 1 => by
    have ih := tHN_b (home := home) (s := s) (lim := lim) f0 r0 hb n0 g
    unfold tHN
    split
    · exact tkF_b f0 r0 ih n0
    · exact ih
/-- a tick of a pack -/
def tkL (home h : Int → Int) (n k sl : Int) : Int := lsZ (fun g => sumG h home n g) k + sl
def tickH (home : Int → Int) (n k fl rt sl : Int) (h : Int → Int) : Int → Int := tH home n fl rt (tkL home h n k sl) (fun g => sumG h home n g) h k
def tickA (home : Int → Int) (n k fl rt sl : Int) (h : Int → Int) : Int := tA home n fl rt (tkL home h n k sl) (fun g => sumG h home n g) h k
def rtC (home : Int → Int) (n k fl rt sl : Int) : Nat → (Int → Int) → Int
  | 0, _ => 0
  | m + 1, h => if tickA home n k fl rt sl h = 0 then 0 else 1 + rtC home n k fl rt sl m (tickH home n k fl rt sl h)
def rtH (home : Int → Int) (n k fl rt sl : Int) : Nat → (Int → Int) → (Int → Int)
  | 0, h => h
  | m + 1, h => if tickA home n k fl rt sl h = 0 then tickH home n k fl rt sl h else rtH home n k fl rt sl m (tickH home n k fl rt sl h)
theorem tAN_01 (home : Int → Int) (n fl rt lim : Int) (s h : Int → Int) : ∀ g : Nat, tAN home n fl rt lim s h g = 0 ∨ tAN home n fl rt lim s h g = 1
  | 0 => Or.inl rfl
  | g + 1 => by
    have := tAN_01 home n fl rt lim s h g
    unfold tAN
    split
    · exact Or.inr rfl
    · exact this
theorem rtC_b (home : Int → Int) (n k fl rt sl : Int) : ∀ (m : Nat) (h : Int → Int), 0 ≤ rtC home n k fl rt sl m h ∧ rtC home n k fl rt sl m h ≤ m
  | 0, _ => ⟨Int.le_refl _, Int.le_refl _⟩
  | m + 1, h => by
    have := rtC_b home n k fl rt sl m (tickH home n k fl rt sl h)
    unfold rtC
    split <;> omega
set_option maxHeartbeats 4000000 in
set_option maxRecDepth 20000 in
theorem c_reset_8 (D : Nat) (M : Mem) : CV D 13 [.inr (.inr 8)] M (fun M' => M' = setC M 8 (upI (upI (upI (upI (upI (M 8) 4 0) 5 2) 6 0) 7 10) 8 5)) := by
  refine mk_C mt_13 rfl (Nat.le_of_ble_eq_true rfl) (L := [some _]) rfl ?_
  refine w_aload_n ta_13 rfl rfl ?_
  refine w_iconst ta_13 rfl ?_
  refine w_putI 4 ta_13 rfl rfl rfl ?_
  refine w_aload_n ta_13 rfl rfl ?_
  refine w_iconst ta_13 rfl ?_
  refine w_putI 5 ta_13 rfl rfl rfl ?_
  refine w_aload_n ta_13 rfl rfl ?_
  refine w_iconst ta_13 rfl ?_
  refine w_putI 6 ta_13 rfl rfl rfl ?_
  refine w_aload_n ta_13 rfl rfl ?_
  refine w_bipush ta_13 rfl ?_
  refine w_putI 7 ta_13 rfl rfl rfl ?_
  refine w_aload_n ta_13 rfl rfl ?_
  refine w_iconst ta_13 rfl ?_
  refine w_putI 8 ta_13 rfl rfl rfl ?_
  refine w_vret ta_13 rfl ?_
  refine ⟨rfl, ?_⟩
  rw [show wr M 8 4 0 = setC M 8 (upI (M 8) 4 0) from rfl, wr_sc, wr_sc, wr_sc, wr_sc]
set_option maxHeartbeats 4000000 in
set_option maxRecDepth 20000 in
theorem c_copyFrom_3_8 (D : Nat) (M : Mem) : CV (D + 4) 14 [.inr (.inr 3), .inr (.inr 8)] M (fun M' => CpP 3 8 M M') := by
  refine mk_C mt_14 rfl (Nat.le_of_ble_eq_true rfl) (L := [some _, some _]) rfl ?_
  refine w_aload_n ta_14 rfl rfl ?_
  refine w_getR ta_14 rfl rfl ?_
  refine w_iconst ta_14 rfl ?_
  refine w_aload_n ta_14 rfl rfl ?_
  refine w_getR ta_14 rfl rfl ?_
  refine w_iconst ta_14 rfl ?_
  refine w_bipush ta_14 rfl ?_
  refine w_acopy ta_14 rfl rfl rfl (by omega) (by omega) (by omega) (by omega) (by omega) (by omega) (Nat.le_of_ble_eq_true rfl) ?_
  refine w_aload_n ta_14 rfl rfl ?_
  refine w_getR ta_14 rfl rfl ?_
  refine w_iconst ta_14 rfl ?_
  refine w_aload_n ta_14 rfl rfl ?_
  refine w_getR ta_14 rfl rfl ?_
  refine w_iconst ta_14 rfl ?_
  refine w_bipush ta_14 rfl ?_
  refine w_acopy ta_14 rfl rfl rfl (by omega) (by omega) (by omega) (by omega) (by omega) (by omega) (Nat.le_of_ble_eq_true rfl) ?_
  refine w_aload_n ta_14 rfl rfl ?_
  refine w_getR ta_14 rfl rfl ?_
  refine w_iconst ta_14 rfl ?_
  refine w_aload_n ta_14 rfl rfl ?_
  refine w_getR ta_14 rfl rfl ?_
  refine w_iconst ta_14 rfl ?_
  refine w_bipush ta_14 rfl ?_
  refine w_acopy ta_14 rfl rfl rfl (by omega) (by omega) (by omega) (by omega) (by omega) (by omega) (Nat.le_of_ble_eq_true rfl) ?_
  refine w_aload_n ta_14 rfl rfl ?_
  refine w_aload_n ta_14 rfl rfl ?_
  refine w_getI 4 ta_14 rfl rfl rfl ?_
  refine w_putI 4 ta_14 rfl rfl rfl ?_
  refine w_aload_n ta_14 rfl rfl ?_
  refine w_aload_n ta_14 rfl rfl ?_
  refine w_getI 5 ta_14 rfl rfl rfl ?_
  refine w_putI 5 ta_14 rfl rfl rfl ?_
  refine w_aload_n ta_14 rfl rfl ?_
  refine w_aload_n ta_14 rfl rfl ?_
  refine w_getI 6 ta_14 rfl rfl rfl ?_
  refine w_putI 6 ta_14 rfl rfl rfl ?_
  refine w_aload_n ta_14 rfl rfl ?_
  refine w_aload_n ta_14 rfl rfl ?_
  refine w_getI 7 ta_14 rfl rfl rfl ?_
  refine w_putI 7 ta_14 rfl rfl rfl ?_
  refine w_aload_n ta_14 rfl rfl ?_
  refine w_aload_n ta_14 rfl rfl ?_
  refine w_getI 8 ta_14 rfl rfl rfl ?_
  refine w_putI 8 ta_14 rfl rfl rfl ?_
  refine w_vret ta_14 rfl ?_
  refine ⟨rfl, fun c h1 h2 h3 h4 => ?_, fun j h1 h2 => ?_, fun i h1 h2 => ⟨?_, ?_, ?_⟩⟩
  · simp only [wr, setC, h1, h2, h3, h4, if_false]
  · rcases (show j = 4 ∨ j = 5 ∨ j = 6 ∨ j = 7 ∨ j = 8 by omega) with rfl | rfl | rfl | rfl | rfl <;> rfl
  · exact (if_pos ⟨h1, by omega⟩).trans (by rw [show (0 : Int) + (i - 0) = i by omega])
  · exact (if_pos ⟨h1, by omega⟩).trans (by rw [show (0 : Int) + (i - 0) = i by omega]; rfl)
  · exact (if_pos ⟨h1, by omega⟩).trans (by rw [show (0 : Int) + (i - 0) = i by omega]; rfl)
set_option maxHeartbeats 4000000 in
set_option maxRecDepth 20000 in
theorem c_copyFrom_13_3 (D : Nat) (M : Mem) : CV (D + 4) 14 [.inr (.inr 13), .inr (.inr 3)] M (fun M' => CpP 13 3 M M') := by
  refine mk_C mt_14 rfl (Nat.le_of_ble_eq_true rfl) (L := [some _, some _]) rfl ?_
  refine w_aload_n ta_14 rfl rfl ?_
  refine w_getR ta_14 rfl rfl ?_
  refine w_iconst ta_14 rfl ?_
  refine w_aload_n ta_14 rfl rfl ?_
  refine w_getR ta_14 rfl rfl ?_
  refine w_iconst ta_14 rfl ?_
  refine w_bipush ta_14 rfl ?_
  refine w_acopy ta_14 rfl rfl rfl (by omega) (by omega) (by omega) (by omega) (by omega) (by omega) (Nat.le_of_ble_eq_true rfl) ?_
  refine w_aload_n ta_14 rfl rfl ?_
  refine w_getR ta_14 rfl rfl ?_
  refine w_iconst ta_14 rfl ?_
  refine w_aload_n ta_14 rfl rfl ?_
  refine w_getR ta_14 rfl rfl ?_
  refine w_iconst ta_14 rfl ?_
  refine w_bipush ta_14 rfl ?_
  refine w_acopy ta_14 rfl rfl rfl (by omega) (by omega) (by omega) (by omega) (by omega) (by omega) (Nat.le_of_ble_eq_true rfl) ?_
  refine w_aload_n ta_14 rfl rfl ?_
  refine w_getR ta_14 rfl rfl ?_
  refine w_iconst ta_14 rfl ?_
  refine w_aload_n ta_14 rfl rfl ?_
  refine w_getR ta_14 rfl rfl ?_
  refine w_iconst ta_14 rfl ?_
  refine w_bipush ta_14 rfl ?_
  refine w_acopy ta_14 rfl rfl rfl (by omega) (by omega) (by omega) (by omega) (by omega) (by omega) (Nat.le_of_ble_eq_true rfl) ?_
  refine w_aload_n ta_14 rfl rfl ?_
  refine w_aload_n ta_14 rfl rfl ?_
  refine w_getI 4 ta_14 rfl rfl rfl ?_
  refine w_putI 4 ta_14 rfl rfl rfl ?_
  refine w_aload_n ta_14 rfl rfl ?_
  refine w_aload_n ta_14 rfl rfl ?_
  refine w_getI 5 ta_14 rfl rfl rfl ?_
  refine w_putI 5 ta_14 rfl rfl rfl ?_
  refine w_aload_n ta_14 rfl rfl ?_
  refine w_aload_n ta_14 rfl rfl ?_
  refine w_getI 6 ta_14 rfl rfl rfl ?_
  refine w_putI 6 ta_14 rfl rfl rfl ?_
  refine w_aload_n ta_14 rfl rfl ?_
  refine w_aload_n ta_14 rfl rfl ?_
  refine w_getI 7 ta_14 rfl rfl rfl ?_
  refine w_putI 7 ta_14 rfl rfl rfl ?_
  refine w_aload_n ta_14 rfl rfl ?_
  refine w_aload_n ta_14 rfl rfl ?_
  refine w_getI 8 ta_14 rfl rfl rfl ?_
  refine w_putI 8 ta_14 rfl rfl rfl ?_
  refine w_vret ta_14 rfl ?_
  refine ⟨rfl, fun c h1 h2 h3 h4 => ?_, fun j h1 h2 => ?_, fun i h1 h2 => ⟨?_, ?_, ?_⟩⟩
  · simp only [wr, setC, h1, h2, h3, h4, if_false]
  · rcases (show j = 4 ∨ j = 5 ∨ j = 6 ∨ j = 7 ∨ j = 8 by omega) with rfl | rfl | rfl | rfl | rfl <;> rfl
  · exact (if_pos ⟨h1, by omega⟩).trans (by rw [show (0 : Int) + (i - 0) = i by omega])
  · exact (if_pos ⟨h1, by omega⟩).trans (by rw [show (0 : Int) + (i - 0) = i by omega]; rfl)
  · exact (if_pos ⟨h1, by omega⟩).trans (by rw [show (0 : Int) + (i - 0) = i by omega]; rfl)
set_option maxHeartbeats 4000000 in
set_option maxRecDepth 20000 in
theorem c_copyFrom_18_3 (D : Nat) (M : Mem) : CV (D + 4) 14 [.inr (.inr 18), .inr (.inr 3)] M (fun M' => CpP 18 3 M M') := by
  refine mk_C mt_14 rfl (Nat.le_of_ble_eq_true rfl) (L := [some _, some _]) rfl ?_
  refine w_aload_n ta_14 rfl rfl ?_
  refine w_getR ta_14 rfl rfl ?_
  refine w_iconst ta_14 rfl ?_
  refine w_aload_n ta_14 rfl rfl ?_
  refine w_getR ta_14 rfl rfl ?_
  refine w_iconst ta_14 rfl ?_
  refine w_bipush ta_14 rfl ?_
  refine w_acopy ta_14 rfl rfl rfl (by omega) (by omega) (by omega) (by omega) (by omega) (by omega) (Nat.le_of_ble_eq_true rfl) ?_
  refine w_aload_n ta_14 rfl rfl ?_
  refine w_getR ta_14 rfl rfl ?_
  refine w_iconst ta_14 rfl ?_
  refine w_aload_n ta_14 rfl rfl ?_
  refine w_getR ta_14 rfl rfl ?_
  refine w_iconst ta_14 rfl ?_
  refine w_bipush ta_14 rfl ?_
  refine w_acopy ta_14 rfl rfl rfl (by omega) (by omega) (by omega) (by omega) (by omega) (by omega) (Nat.le_of_ble_eq_true rfl) ?_
  refine w_aload_n ta_14 rfl rfl ?_
  refine w_getR ta_14 rfl rfl ?_
  refine w_iconst ta_14 rfl ?_
  refine w_aload_n ta_14 rfl rfl ?_
  refine w_getR ta_14 rfl rfl ?_
  refine w_iconst ta_14 rfl ?_
  refine w_bipush ta_14 rfl ?_
  refine w_acopy ta_14 rfl rfl rfl (by omega) (by omega) (by omega) (by omega) (by omega) (by omega) (Nat.le_of_ble_eq_true rfl) ?_
  refine w_aload_n ta_14 rfl rfl ?_
  refine w_aload_n ta_14 rfl rfl ?_
  refine w_getI 4 ta_14 rfl rfl rfl ?_
  refine w_putI 4 ta_14 rfl rfl rfl ?_
  refine w_aload_n ta_14 rfl rfl ?_
  refine w_aload_n ta_14 rfl rfl ?_
  refine w_getI 5 ta_14 rfl rfl rfl ?_
  refine w_putI 5 ta_14 rfl rfl rfl ?_
  refine w_aload_n ta_14 rfl rfl ?_
  refine w_aload_n ta_14 rfl rfl ?_
  refine w_getI 6 ta_14 rfl rfl rfl ?_
  refine w_putI 6 ta_14 rfl rfl rfl ?_
  refine w_aload_n ta_14 rfl rfl ?_
  refine w_aload_n ta_14 rfl rfl ?_
  refine w_getI 7 ta_14 rfl rfl rfl ?_
  refine w_putI 7 ta_14 rfl rfl rfl ?_
  refine w_aload_n ta_14 rfl rfl ?_
  refine w_aload_n ta_14 rfl rfl ?_
  refine w_getI 8 ta_14 rfl rfl rfl ?_
  refine w_putI 8 ta_14 rfl rfl rfl ?_
  refine w_vret ta_14 rfl ?_
  refine ⟨rfl, fun c h1 h2 h3 h4 => ?_, fun j h1 h2 => ?_, fun i h1 h2 => ⟨?_, ?_, ?_⟩⟩
  · simp only [wr, setC, h1, h2, h3, h4, if_false]
  · rcases (show j = 4 ∨ j = 5 ∨ j = 6 ∨ j = 7 ∨ j = 8 by omega) with rfl | rfl | rfl | rfl | rfl <;> rfl
  · exact (if_pos ⟨h1, by omega⟩).trans (by rw [show (0 : Int) + (i - 0) = i by omega])
  · exact (if_pos ⟨h1, by omega⟩).trans (by rw [show (0 : Int) + (i - 0) = i by omega]; rfl)
  · exact (if_pos ⟨h1, by omega⟩).trans (by rw [show (0 : Int) + (i - 0) = i by omega]; rfl)
set_option maxHeartbeats 4000000 in
set_option maxRecDepth 20000 in
theorem c_copyFrom_3_13 (D : Nat) (M : Mem) : CV (D + 4) 14 [.inr (.inr 3), .inr (.inr 13)] M (fun M' => CpP 3 13 M M') := by
  refine mk_C mt_14 rfl (Nat.le_of_ble_eq_true rfl) (L := [some _, some _]) rfl ?_
  refine w_aload_n ta_14 rfl rfl ?_
  refine w_getR ta_14 rfl rfl ?_
  refine w_iconst ta_14 rfl ?_
  refine w_aload_n ta_14 rfl rfl ?_
  refine w_getR ta_14 rfl rfl ?_
  refine w_iconst ta_14 rfl ?_
  refine w_bipush ta_14 rfl ?_
  refine w_acopy ta_14 rfl rfl rfl (by omega) (by omega) (by omega) (by omega) (by omega) (by omega) (Nat.le_of_ble_eq_true rfl) ?_
  refine w_aload_n ta_14 rfl rfl ?_
  refine w_getR ta_14 rfl rfl ?_
  refine w_iconst ta_14 rfl ?_
  refine w_aload_n ta_14 rfl rfl ?_
  refine w_getR ta_14 rfl rfl ?_
  refine w_iconst ta_14 rfl ?_
  refine w_bipush ta_14 rfl ?_
  refine w_acopy ta_14 rfl rfl rfl (by omega) (by omega) (by omega) (by omega) (by omega) (by omega) (Nat.le_of_ble_eq_true rfl) ?_
  refine w_aload_n ta_14 rfl rfl ?_
  refine w_getR ta_14 rfl rfl ?_
  refine w_iconst ta_14 rfl ?_
  refine w_aload_n ta_14 rfl rfl ?_
  refine w_getR ta_14 rfl rfl ?_
  refine w_iconst ta_14 rfl ?_
  refine w_bipush ta_14 rfl ?_
  refine w_acopy ta_14 rfl rfl rfl (by omega) (by omega) (by omega) (by omega) (by omega) (by omega) (Nat.le_of_ble_eq_true rfl) ?_
  refine w_aload_n ta_14 rfl rfl ?_
  refine w_aload_n ta_14 rfl rfl ?_
  refine w_getI 4 ta_14 rfl rfl rfl ?_
  refine w_putI 4 ta_14 rfl rfl rfl ?_
  refine w_aload_n ta_14 rfl rfl ?_
  refine w_aload_n ta_14 rfl rfl ?_
  refine w_getI 5 ta_14 rfl rfl rfl ?_
  refine w_putI 5 ta_14 rfl rfl rfl ?_
  refine w_aload_n ta_14 rfl rfl ?_
  refine w_aload_n ta_14 rfl rfl ?_
  refine w_getI 6 ta_14 rfl rfl rfl ?_
  refine w_putI 6 ta_14 rfl rfl rfl ?_
  refine w_aload_n ta_14 rfl rfl ?_
  refine w_aload_n ta_14 rfl rfl ?_
  refine w_getI 7 ta_14 rfl rfl rfl ?_
  refine w_putI 7 ta_14 rfl rfl rfl ?_
  refine w_aload_n ta_14 rfl rfl ?_
  refine w_aload_n ta_14 rfl rfl ?_
  refine w_getI 8 ta_14 rfl rfl rfl ?_
  refine w_putI 8 ta_14 rfl rfl rfl ?_
  refine w_vret ta_14 rfl ?_
  refine ⟨rfl, fun c h1 h2 h3 h4 => ?_, fun j h1 h2 => ?_, fun i h1 h2 => ⟨?_, ?_, ?_⟩⟩
  · simp only [wr, setC, h1, h2, h3, h4, if_false]
  · rcases (show j = 4 ∨ j = 5 ∨ j = 6 ∨ j = 7 ∨ j = 8 by omega) with rfl | rfl | rfl | rfl | rfl <;> rfl
  · exact (if_pos ⟨h1, by omega⟩).trans (by rw [show (0 : Int) + (i - 0) = i by omega])
  · exact (if_pos ⟨h1, by omega⟩).trans (by rw [show (0 : Int) + (i - 0) = i by omega]; rfl)
  · exact (if_pos ⟨h1, by omega⟩).trans (by rw [show (0 : Int) + (i - 0) = i by omega]; rfl)
set_option maxHeartbeats 4000000 in
set_option maxRecDepth 20000 in
theorem c_copyFrom_3_18 (D : Nat) (M : Mem) : CV (D + 4) 14 [.inr (.inr 3), .inr (.inr 18)] M (fun M' => CpP 3 18 M M') := by
  refine mk_C mt_14 rfl (Nat.le_of_ble_eq_true rfl) (L := [some _, some _]) rfl ?_
  refine w_aload_n ta_14 rfl rfl ?_
  refine w_getR ta_14 rfl rfl ?_
  refine w_iconst ta_14 rfl ?_
  refine w_aload_n ta_14 rfl rfl ?_
  refine w_getR ta_14 rfl rfl ?_
  refine w_iconst ta_14 rfl ?_
  refine w_bipush ta_14 rfl ?_
  refine w_acopy ta_14 rfl rfl rfl (by omega) (by omega) (by omega) (by omega) (by omega) (by omega) (Nat.le_of_ble_eq_true rfl) ?_
  refine w_aload_n ta_14 rfl rfl ?_
  refine w_getR ta_14 rfl rfl ?_
  refine w_iconst ta_14 rfl ?_
  refine w_aload_n ta_14 rfl rfl ?_
  refine w_getR ta_14 rfl rfl ?_
  refine w_iconst ta_14 rfl ?_
  refine w_bipush ta_14 rfl ?_
  refine w_acopy ta_14 rfl rfl rfl (by omega) (by omega) (by omega) (by omega) (by omega) (by omega) (Nat.le_of_ble_eq_true rfl) ?_
  refine w_aload_n ta_14 rfl rfl ?_
  refine w_getR ta_14 rfl rfl ?_
  refine w_iconst ta_14 rfl ?_
  refine w_aload_n ta_14 rfl rfl ?_
  refine w_getR ta_14 rfl rfl ?_
  refine w_iconst ta_14 rfl ?_
  refine w_bipush ta_14 rfl ?_
  refine w_acopy ta_14 rfl rfl rfl (by omega) (by omega) (by omega) (by omega) (by omega) (by omega) (Nat.le_of_ble_eq_true rfl) ?_
  refine w_aload_n ta_14 rfl rfl ?_
  refine w_aload_n ta_14 rfl rfl ?_
  refine w_getI 4 ta_14 rfl rfl rfl ?_
  refine w_putI 4 ta_14 rfl rfl rfl ?_
  refine w_aload_n ta_14 rfl rfl ?_
  refine w_aload_n ta_14 rfl rfl ?_
  refine w_getI 5 ta_14 rfl rfl rfl ?_
  refine w_putI 5 ta_14 rfl rfl rfl ?_
  refine w_aload_n ta_14 rfl rfl ?_
  refine w_aload_n ta_14 rfl rfl ?_
  refine w_getI 6 ta_14 rfl rfl rfl ?_
  refine w_putI 6 ta_14 rfl rfl rfl ?_
  refine w_aload_n ta_14 rfl rfl ?_
  refine w_aload_n ta_14 rfl rfl ?_
  refine w_getI 7 ta_14 rfl rfl rfl ?_
  refine w_putI 7 ta_14 rfl rfl rfl ?_
  refine w_aload_n ta_14 rfl rfl ?_
  refine w_aload_n ta_14 rfl rfl ?_
  refine w_getI 8 ta_14 rfl rfl rfl ?_
  refine w_putI 8 ta_14 rfl rfl rfl ?_
  refine w_vret ta_14 rfl ?_
  refine ⟨rfl, fun c h1 h2 h3 h4 => ?_, fun j h1 h2 => ?_, fun i h1 h2 => ⟨?_, ?_, ?_⟩⟩
  · simp only [wr, setC, h1, h2, h3, h4, if_false]
  · rcases (show j = 4 ∨ j = 5 ∨ j = 6 ∨ j = 7 ∨ j = 8 by omega) with rfl | rfl | rfl | rfl | rfl <;> rfl
  · exact (if_pos ⟨h1, by omega⟩).trans (by rw [show (0 : Int) + (i - 0) = i by omega])
  · exact (if_pos ⟨h1, by omega⟩).trans (by rw [show (0 : Int) + (i - 0) = i by omega]; rfl)
  · exact (if_pos ⟨h1, by omega⟩).trans (by rw [show (0 : Int) + (i - 0) = i by omega]; rfl)
set_option maxHeartbeats 4000000 in
set_option maxRecDepth 20000 in
theorem c_copyFrom_8_3 (D : Nat) (M : Mem) : CV (D + 4) 14 [.inr (.inr 8), .inr (.inr 3)] M (fun M' => CpP 8 3 M M') := by
  refine mk_C mt_14 rfl (Nat.le_of_ble_eq_true rfl) (L := [some _, some _]) rfl ?_
  refine w_aload_n ta_14 rfl rfl ?_
  refine w_getR ta_14 rfl rfl ?_
  refine w_iconst ta_14 rfl ?_
  refine w_aload_n ta_14 rfl rfl ?_
  refine w_getR ta_14 rfl rfl ?_
  refine w_iconst ta_14 rfl ?_
  refine w_bipush ta_14 rfl ?_
  refine w_acopy ta_14 rfl rfl rfl (by omega) (by omega) (by omega) (by omega) (by omega) (by omega) (Nat.le_of_ble_eq_true rfl) ?_
  refine w_aload_n ta_14 rfl rfl ?_
  refine w_getR ta_14 rfl rfl ?_
  refine w_iconst ta_14 rfl ?_
  refine w_aload_n ta_14 rfl rfl ?_
  refine w_getR ta_14 rfl rfl ?_
  refine w_iconst ta_14 rfl ?_
  refine w_bipush ta_14 rfl ?_
  refine w_acopy ta_14 rfl rfl rfl (by omega) (by omega) (by omega) (by omega) (by omega) (by omega) (Nat.le_of_ble_eq_true rfl) ?_
  refine w_aload_n ta_14 rfl rfl ?_
  refine w_getR ta_14 rfl rfl ?_
  refine w_iconst ta_14 rfl ?_
  refine w_aload_n ta_14 rfl rfl ?_
  refine w_getR ta_14 rfl rfl ?_
  refine w_iconst ta_14 rfl ?_
  refine w_bipush ta_14 rfl ?_
  refine w_acopy ta_14 rfl rfl rfl (by omega) (by omega) (by omega) (by omega) (by omega) (by omega) (Nat.le_of_ble_eq_true rfl) ?_
  refine w_aload_n ta_14 rfl rfl ?_
  refine w_aload_n ta_14 rfl rfl ?_
  refine w_getI 4 ta_14 rfl rfl rfl ?_
  refine w_putI 4 ta_14 rfl rfl rfl ?_
  refine w_aload_n ta_14 rfl rfl ?_
  refine w_aload_n ta_14 rfl rfl ?_
  refine w_getI 5 ta_14 rfl rfl rfl ?_
  refine w_putI 5 ta_14 rfl rfl rfl ?_
  refine w_aload_n ta_14 rfl rfl ?_
  refine w_aload_n ta_14 rfl rfl ?_
  refine w_getI 6 ta_14 rfl rfl rfl ?_
  refine w_putI 6 ta_14 rfl rfl rfl ?_
  refine w_aload_n ta_14 rfl rfl ?_
  refine w_aload_n ta_14 rfl rfl ?_
  refine w_getI 7 ta_14 rfl rfl rfl ?_
  refine w_putI 7 ta_14 rfl rfl rfl ?_
  refine w_aload_n ta_14 rfl rfl ?_
  refine w_aload_n ta_14 rfl rfl ?_
  refine w_getI 8 ta_14 rfl rfl rfl ?_
  refine w_putI 8 ta_14 rfl rfl rfl ?_
  refine w_vret ta_14 rfl ?_
  refine ⟨rfl, fun c h1 h2 h3 h4 => ?_, fun j h1 h2 => ?_, fun i h1 h2 => ⟨?_, ?_, ?_⟩⟩
  · simp only [wr, setC, h1, h2, h3, h4, if_false]
  · rcases (show j = 4 ∨ j = 5 ∨ j = 6 ∨ j = 7 ∨ j = 8 by omega) with rfl | rfl | rfl | rfl | rfl <;> rfl
  · exact (if_pos ⟨h1, by omega⟩).trans (by rw [show (0 : Int) + (i - 0) = i by omega])
  · exact (if_pos ⟨h1, by omega⟩).trans (by rw [show (0 : Int) + (i - 0) = i by omega]; rfl)
  · exact (if_pos ⟨h1, by omega⟩).trans (by rw [show (0 : Int) + (i - 0) = i by omega]; rfl)
set_option maxHeartbeats 4000000 in
set_option maxRecDepth 20000 in
theorem c_append_3 (D : Nat) (M : Mem) (v g : Int) (n0 : 0 ≤ M 3 4) (n1 : M 3 4 < 16) : CV D 15 [.inr (.inr 3), .inl v, .inl g] M (fun M' => ApP 3 v g M M') := by
  refine mk_C mt_15 rfl (Nat.le_of_ble_eq_true rfl) (L := [some _, some _, some _]) rfl ?_
  refine w_aload_n ta_15 rfl rfl ?_
  refine w_getI 4 ta_15 rfl rfl rfl ?_
  refine w_bipush ta_15 rfl ?_
  refine w_icmp_ge ta_15 rfl ⟨by omega, by omega⟩ ⟨by omega, by omega⟩ (fun h6 => ?_) (fun h6 => ?_)
  · exfalso; omega
  · refine w_aload_n ta_15 rfl rfl ?_
    refine w_getR ta_15 rfl rfl ?_
    refine w_aload_n ta_15 rfl rfl ?_
    refine w_getI 4 ta_15 rfl rfl rfl ?_
    refine w_iload_n ta_15 rfl rfl ?_
    refine w_iastore ta_15 rfl rfl (by omega) (by omega) (by omega) ?_
    refine w_aload_n ta_15 rfl rfl ?_
    refine w_getR ta_15 rfl rfl ?_
    refine w_aload_n ta_15 rfl rfl ?_
    refine w_getIv 4 (v := M 3 4) ta_15 rfl rfl rfl rfl ?_
    refine w_iload_n ta_15 rfl rfl ?_
    refine w_iastore ta_15 rfl rfl (by omega) (by omega) (by omega) ?_
    refine w_aload_n ta_15 rfl rfl ?_
    refine w_getR ta_15 rfl rfl ?_
    refine w_aload_n ta_15 rfl rfl ?_
    refine w_getIv 4 (v := M 3 4) ta_15 rfl rfl rfl rfl ?_
    refine w_iload_n ta_15 rfl rfl ?_
    refine w_iastore ta_15 rfl rfl (by omega) (by omega) (by omega) ?_
    refine w_aload_n ta_15 rfl rfl ?_
    refine w_dup ta_15 rfl rfl ?_
    refine w_getIv 4 (v := M 3 4) ta_15 rfl rfl rfl rfl ?_
    refine w_iconst ta_15 rfl ?_
    refine w_iadd ta_15 rfl ?_
    refine w_putI 4 ta_15 rfl rfl rfl ?_
    refine w_vret ta_15 rfl ?_
    exact ⟨rfl, fun c h1 h2 h3 h4 => by simp only [wr, setC, h1, h2, h3, h4, if_false], rfl, rfl, rfl, rfl⟩
set_option maxHeartbeats 4000000 in
set_option maxRecDepth 20000 in
theorem c_append_8 (D : Nat) (M : Mem) (v g : Int) (n0 : 0 ≤ M 8 4) (n1 : M 8 4 < 16) : CV D 15 [.inr (.inr 8), .inl v, .inl g] M (fun M' => ApP 8 v g M M') := by
  refine mk_C mt_15 rfl (Nat.le_of_ble_eq_true rfl) (L := [some _, some _, some _]) rfl ?_
  refine w_aload_n ta_15 rfl rfl ?_
  refine w_getI 4 ta_15 rfl rfl rfl ?_
  refine w_bipush ta_15 rfl ?_
  refine w_icmp_ge ta_15 rfl ⟨by omega, by omega⟩ ⟨by omega, by omega⟩ (fun h6 => ?_) (fun h6 => ?_)
  · exfalso; omega
  · refine w_aload_n ta_15 rfl rfl ?_
    refine w_getR ta_15 rfl rfl ?_
    refine w_aload_n ta_15 rfl rfl ?_
    refine w_getI 4 ta_15 rfl rfl rfl ?_
    refine w_iload_n ta_15 rfl rfl ?_
    refine w_iastore ta_15 rfl rfl (by omega) (by omega) (by omega) ?_
    refine w_aload_n ta_15 rfl rfl ?_
    refine w_getR ta_15 rfl rfl ?_
    refine w_aload_n ta_15 rfl rfl ?_
    refine w_getIv 4 (v := M 8 4) ta_15 rfl rfl rfl rfl ?_
    refine w_iload_n ta_15 rfl rfl ?_
    refine w_iastore ta_15 rfl rfl (by omega) (by omega) (by omega) ?_
    refine w_aload_n ta_15 rfl rfl ?_
    refine w_getR ta_15 rfl rfl ?_
    refine w_aload_n ta_15 rfl rfl ?_
    refine w_getIv 4 (v := M 8 4) ta_15 rfl rfl rfl rfl ?_
    refine w_iload_n ta_15 rfl rfl ?_
    refine w_iastore ta_15 rfl rfl (by omega) (by omega) (by omega) ?_
    refine w_aload_n ta_15 rfl rfl ?_
    refine w_dup ta_15 rfl rfl ?_
    refine w_getIv 4 (v := M 8 4) ta_15 rfl rfl rfl rfl ?_
    refine w_iconst ta_15 rfl ?_
    refine w_iadd ta_15 rfl ?_
    refine w_putI 4 ta_15 rfl rfl rfl ?_
    refine w_vret ta_15 rfl ?_
    exact ⟨rfl, fun c h1 h2 h3 h4 => by simp only [wr, setC, h1, h2, h3, h4, if_false], rfl, rfl, rfl, rfl⟩
/-- cell x has gone -/
def DrP (x : Int) (M M' : Mem) : Prop := (∀ c, c ≠ 3 → c ≠ 4 → c ≠ 5 → c ≠ 6 → M' c = M c) ∧ M' 3 = upI (M 3) 4 (M 3 4 - 1) ∧ M' 4 = shF (M 4) x (M 3 4) ∧ M' 5 = shF (M 5) x (M 3 4) ∧ M' 6 = shF (M 6) x (M 3 4)
theorem dr_mem {M : Mem} {f4 f5 f6 : Int → Int} {i v4 v5 v6 : Int} : wr (wr (wr (setC (setC (setC M 4 f4) 5 f5) 6 f6) 4 i v4) 5 i v5) 6 i v6 = setC (setC (setC M 4 (upI f4 i v4)) 5 (upI f5 i v5)) 6 (upI f6 i v6) := by
  funext c
  by_cases h4 : c = 4
  · subst h4; rfl
  · by_cases h5 : c = 5
    · subst h5; rfl
    · by_cases h6 : c = 6
      · subst h6; rfl
      · simp only [wr, setC, h4, h5, h6, if_false]
set_option maxHeartbeats 4000000 in
set_option maxRecDepth 20000 in
theorem lp_removeAt (D : Nat) (M : Mem) (x : Int) (x0 : 0 ≤ x) (n1 : M 3 4 ≤ 16) : ∀ j : Int, x + 1 ≤ j → j ≤ M 3 4 → Wp D 16 (4, [some (.inr (.inr 3)), some (.inl x), some (.inl j)], [], setC (setC (setC M 4 (shF (M 4) x j)) 5 (shF (M 5) x j)) 6 (shF (M 6) x j)) (fun r M' => r = none ∧ DrP x M M') := by
  refine loopO (x + 1) (M 3 4) ?_
  intro j h0 h1 ih
  refine w_iload_n ta_16 rfl rfl ?_
  refine w_aload_n ta_16 rfl rfl ?_
  refine w_getIv 4 (v := M 3 4) ta_16 rfl rfl rfl rfl ?_
  refine w_icmp_ge ta_16 rfl ⟨by omega, by omega⟩ ⟨by omega, by omega⟩ (fun h9 => ?_) (fun h9 => ?_)
  · refine w_aload_n ta_16 rfl rfl ?_
    refine w_dup ta_16 rfl rfl ?_
    refine w_getIv 4 (v := M 3 4) ta_16 rfl rfl rfl rfl ?_
    refine w_iconst ta_16 rfl ?_
    refine w_isub ta_16 rfl ?_
    refine w_putI 4 ta_16 rfl rfl rfl ?_
    refine w_vret ta_16 rfl ?_
    have e : j = M 3 4 := by omega
    subst e
    exact ⟨rfl, fun c h1 h2 h3 h4 => by simp only [wr, setC, h1, h2, h3, h4, if_false], rfl, rfl, rfl, rfl⟩
  · refine w_aload_n ta_16 rfl rfl ?_
    refine w_getR ta_16 rfl rfl ?_
    refine w_iload_n ta_16 rfl rfl ?_
    refine w_iconst ta_16 rfl ?_
    refine w_isub ta_16 rfl ?_
    refine w_aload_n ta_16 rfl rfl ?_
    refine w_getR ta_16 rfl rfl ?_
    refine w_iload_n ta_16 rfl rfl ?_
    refine w_ialoadv (v := shF (M 4) x j j) ta_16 rfl rfl (by omega) (by omega) (by omega) rfl ?_
    refine w_iastore ta_16 rfl rfl (by omega) (by omega) (by omega) ?_
    refine w_aload_n ta_16 rfl rfl ?_
    refine w_getR ta_16 rfl rfl ?_
    refine w_iload_n ta_16 rfl rfl ?_
    refine w_iconst ta_16 rfl ?_
    refine w_isub ta_16 rfl ?_
    refine w_aload_n ta_16 rfl rfl ?_
    refine w_getR ta_16 rfl rfl ?_
    refine w_iload_n ta_16 rfl rfl ?_
    refine w_ialoadv (v := shF (M 5) x j j) ta_16 rfl rfl (by omega) (by omega) (by omega) rfl ?_
    refine w_iastore ta_16 rfl rfl (by omega) (by omega) (by omega) ?_
    refine w_aload_n ta_16 rfl rfl ?_
    refine w_getR ta_16 rfl rfl ?_
    refine w_iload_n ta_16 rfl rfl ?_
    refine w_iconst ta_16 rfl ?_
    refine w_isub ta_16 rfl ?_
    refine w_aload_n ta_16 rfl rfl ?_
    refine w_getR ta_16 rfl rfl ?_
    refine w_iload_n ta_16 rfl rfl ?_
    refine w_ialoadv (v := shF (M 6) x j j) ta_16 rfl rfl (by omega) (by omega) (by omega) rfl ?_
    refine w_iastore ta_16 rfl rfl (by omega) (by omega) (by omega) ?_
    refine w_iinc_2_3 ta_16 rfl rfl ?_
    refine w_goto ta_16 rfl ?_
    rw [dr_mem, shF_s _ (by omega), shF_s _ (by omega), shF_s _ (by omega)]
    exact ih h9
set_option maxHeartbeats 4000000 in
set_option maxRecDepth 20000 in
theorem c_removeAt (D : Nat) (M : Mem) (x : Int) (x0 : 0 ≤ x) (x1 : x < M 3 4) (n1 : M 3 4 ≤ 16) : CV D 16 [.inr (.inr 3), .inl x] M (fun M' => DrP x M M') := by
  refine mk_C mt_16 rfl (Nat.le_of_ble_eq_true rfl) (L := [some _, some _, none]) rfl ?_
  refine w_iload_n ta_16 rfl rfl ?_
  refine w_iconst ta_16 rfl ?_
  refine w_iadd ta_16 rfl ?_
  refine w_istn_2_3 ta_16 rfl rfl ?_
  have q := lp_removeAt D M x x0 n1 (x + 1) (by omega) (by omega)
  rw [shF_0, shF_0, shF_0, sc_id, sc_id, sc_id] at q
  exact q
set_option maxHeartbeats 4000000 in
set_option maxRecDepth 20000 in
theorem c_leastSumExchanged (D : Nat) (M : Mem) (hI : PkI 3 M) (i j : Int) (i0 : 0 ≤ i) (i1 : i < M 3 4) (j0 : 0 ≤ j) (j1 : j < M 3 4) : CI (D + 2) 22 [.inr (.inr 3), .inl i, .inl j] M (fun v M' => v = lsZ (EX (SG 3 M) (M 6) (M 5) i j) (M 3 5) ∧ ∀ c, c ≠ 7 → M' c = M c) := by
  refine mk_C mt_22 rfl (Nat.le_of_ble_eq_true rfl) (L := [some _, some _, some _]) rfl ?_
  obtain ⟨n0, n1, k0, k1, f0, f1, r0, r1, s0, s1, hA⟩ := pkd_3 hI
  refine w_aload_n ta_22 rfl rfl ?_
  refine w_getR ta_22 rfl rfl ?_
  refine w_aload_n ta_22 rfl rfl ?_
  refine w_getR ta_22 rfl rfl ?_
  refine w_aload_n ta_22 rfl rfl ?_
  refine w_getI 4 ta_22 rfl rfl rfl ?_
  refine w_aload_n ta_22 rfl rfl ?_
  refine w_getR ta_22 rfl rfl ?_
  refine w_cV [_, _, _, _] _ ta_22 rfl rfl rfl mt_102 rfl rfl rfl rfl (Nat.le_of_ble_eq_true rfl) (fun q => by cases q) rfl (c_sumUp _ 5 6 7 5 16 16 (M 3 4) M rfl rfl rfl (by decide) (by decide) (by decide) (by decide) (by decide) (by omega) (by omega) (fun i h0 h1 => by have := hA i h0 h1; omega) n0) ?_
  rintro M1 hM1
  have hS : SmP 3 M M1 := ⟨fun c hc => by rw [hM1, sc_n _ _ hc], fun g h0 h1 => by rw [hM1, sc_s]; exact smF_at h0 h1⟩
  have e5 : M1 5 = M 5 := hS.1 5 (by decide)
  have e6 : M1 6 = M 6 := hS.1 6 (by decide)
  have e3 : M1 3 = M 3 := hS.1 3 (by decide)
  have qi := hA i i0 i1
  have qj := hA j j0 j1
  have hE : ∀ g, 0 ≤ g → g < 5 → EX (M1 7) (M 6) (M 5) i j g = EX (SG 3 M) (M 6) (M 5) i j g := EX_cg hS.2 (by omega) (by omega)
  have hEb := EX_b (s := M1 7) (home := M 6) (has := M 5) (i := i) (j := j) (a := 0) (b := 15984) (fun g h0 h1 => by rw [hS.2 g h0 h1]; exact SG_b hI g) (by omega) (by omega) (by omega)
  refine w_aload_n ta_22 rfl rfl ?_
  refine w_getR ta_22 rfl rfl ?_
  refine w_aload_n ta_22 rfl rfl ?_
  refine w_getR ta_22 rfl rfl ?_
  refine w_iload_n ta_22 rfl rfl ?_
  refine w_ialoadv (v := M 6 i) ta_22 rfl rfl (by omega) (by omega) (by omega) (by rw [e6]) ?_
  refine w_dup2 ta_22 rfl rfl rfl ?_
  refine w_iaload ta_22 rfl rfl (by omega) (by omega) (by omega) ?_
  refine w_aload_n ta_22 rfl rfl ?_
  refine w_getR ta_22 rfl rfl ?_
  refine w_iload_n ta_22 rfl rfl ?_
  refine w_ialoadv (v := M 5 j) ta_22 rfl rfl (by omega) (by omega) (by omega) (by rw [e5]) ?_
  refine w_aload_n ta_22 rfl rfl ?_
  refine w_getR ta_22 rfl rfl ?_
  refine w_iload_n ta_22 rfl rfl ?_
  refine w_ialoadv (v := M 5 i) ta_22 rfl rfl (by omega) (by omega) (by omega) (by rw [e5]) ?_
  refine w_isub ta_22 rfl ?_
  refine w_iadd ta_22 rfl ?_
  refine w_iastore ta_22 rfl rfl (by omega) (by omega) (by omega) ?_
  refine w_aload_n ta_22 rfl rfl ?_
  refine w_getR ta_22 rfl rfl ?_
  refine w_aload_n ta_22 rfl rfl ?_
  refine w_getR ta_22 rfl rfl ?_
  refine w_iload_n ta_22 rfl rfl ?_
  refine w_ialoadv (v := M 6 j) ta_22 rfl rfl (by omega) (by omega) (by omega) (by show M1 6 j = _; rw [e6]) ?_
  refine w_dup2 ta_22 rfl rfl rfl ?_
  refine w_iaload ta_22 rfl rfl (by omega) (by omega) (by omega) ?_
  refine w_aload_n ta_22 rfl rfl ?_
  refine w_getR ta_22 rfl rfl ?_
  refine w_iload_n ta_22 rfl rfl ?_
  refine w_ialoadv (v := M 5 i) ta_22 rfl rfl (by omega) (by omega) (by omega) (by show M1 5 i = _; rw [e5]) ?_
  refine w_aload_n ta_22 rfl rfl ?_
  refine w_getR ta_22 rfl rfl ?_
  refine w_iload_n ta_22 rfl rfl ?_
  refine w_ialoadv (v := M 5 j) ta_22 rfl rfl (by omega) (by omega) (by omega) (by show M1 5 j = _; rw [e5]) ?_
  refine w_isub ta_22 rfl ?_
  refine w_iadd ta_22 rfl ?_
  refine w_iastore ta_22 rfl rfl (by omega) (by omega) (by omega) ?_
  refine w_aload_n ta_22 rfl rfl ?_
  refine w_getR ta_22 rfl rfl ?_
  refine w_aload_n ta_22 rfl rfl ?_
  refine w_getR ta_22 rfl rfl ?_
  refine w_aload_n ta_22 rfl rfl ?_
  refine w_getIv 5 (v := M 3 5) ta_22 rfl rfl rfl (by show M1 3 5 = _; rw [e3]) ?_
  refine w_cI [_, _] _ ta_22 rfl rfl rfl mt_103 rfl rfl rfl rfl (Nat.le_of_ble_eq_true rfl) (fun q => by cases q) rfl (c_firstLeast _ 7 5 (M 3 5) _ rfl (by decide) (by omega) (fun g h0 h1 => by have := hEb g h0 (by omega); exact ⟨by show _ ≤ EX (M1 7) (M 6) (M 5) i j g; omega, by show EX (M1 7) (M 6) (M 5) i j g < _; omega⟩) (by omega)) ?_
  rintro v M2 ⟨hv, hM2⟩
  have hv : v = flZ (EX (M1 7) (M 6) (M 5) i j) (M 3 5) := hv
  have b := flZ_b (EX (M1 7) (M 6) (M 5) i j) (k := M 3 5) (by omega)
  rw [← hv] at b
  refine w_ialoadv (v := EX (M1 7) (M 6) (M 5) i j v) ta_22 rfl rfl (by omega) (by omega) (by omega) (by rw [hM2]; rfl) ?_
  refine w_iret ta_22 rfl (Or.inl rfl) ?_
  refine ⟨_, rfl, ?_, fun c hc => ?_⟩
  · rw [lsZ_cg (s' := EX (M1 7) (M 6) (M 5) i j) (by omega) (fun g h0 h1 => (hE g h0 (by omega)).symm), lsZ, ← hv]
  · rw [hM2]
    exact (wr_n _ _ _ hc).trans ((wr_n _ _ _ hc).trans (hS.1 c hc))
set_option maxHeartbeats 4000000 in
set_option maxRecDepth 20000 in
theorem lp_bitsOf (D : Nat) (M : Mem) (hI : PkI 3 M) (g : Int) (g0 : inR g) : ∀ i : Int, 0 ≤ i → i ≤ M 3 4 → Wp D 24 (4, [some (.inr (.inr 3)), some (.inl g), some (.inl (btZ (M 6) i g)), some (.inl i)], [], M) (fun r M' => ∃ v, r = some (.inl v) ∧ (v = btZ (M 6) (M 3 4) g ∧ M' = M)) := by
  obtain ⟨n0, n1, k0, k1, f0, f1, r0, r1, s0, s1, hA⟩ := pkd_3 hI
  refine loopZ (M 3 4) ?_
  intro i h0 h1 ih
  refine w_iload_n ta_24 rfl rfl ?_
  refine w_aload_n ta_24 rfl rfl ?_
  refine w_getI 4 ta_24 rfl rfl rfl ?_
  refine w_icmp_ge ta_24 rfl ⟨by omega, by omega⟩ ⟨by omega, by omega⟩ (fun h9 => ?_) (fun h9 => ?_)
  · refine w_iload_n ta_24 rfl rfl ?_
    refine w_iret ta_24 rfl (Or.inl rfl) ?_
    exact ⟨_, rfl, by rw [show i = M 3 4 by omega], rfl⟩
  · have q := hA i h0 h9
    obtain ⟨g2, g3⟩ := id g0
    have ih := ih h9
    rw [btZ_s _ _ h0] at ih
    have b := btZ_bz (M 6) g h0
    refine w_aload_n ta_24 rfl rfl ?_
    refine w_getR ta_24 rfl rfl ?_
    refine w_iload_n ta_24 rfl rfl ?_
    refine w_iaload ta_24 rfl rfl (by omega) (by omega) (by omega) ?_
    refine w_iload_n ta_24 rfl rfl ?_
    refine w_icmp_ne ta_24 rfl ⟨by omega, by omega⟩ ⟨by omega, by omega⟩ (fun h19 => ?_) (fun h19 => ?_)
    · refine w_iinc_3_4 ta_24 rfl rfl ?_
      refine w_goto ta_24 rfl ?_
      first
        | (rw [if_pos (by omega)] at ih; exact ih)
        | (rw [if_neg (by omega), Int.add_zero] at ih; exact ih)
    · refine w_iload_n ta_24 rfl rfl ?_
      refine w_iconst ta_24 rfl ?_
      refine w_iload_n ta_24 rfl rfl ?_
      refine w_ishl ta_24 rfl (by omega) (by omega) ?_
      refine w_ior ta_24 rfl ?_
      rw [iOr_pow b.1 b.2 (by omega)]
      refine w_istn_2_4 ta_24 rfl rfl ?_
      refine w_iinc_3_4 ta_24 rfl rfl ?_
      refine w_goto ta_24 rfl ?_
      first
        | (rw [if_pos (by omega)] at ih; exact ih)
        | (rw [if_neg (by omega), Int.add_zero] at ih; exact ih)
set_option maxHeartbeats 4000000 in
set_option maxRecDepth 20000 in
theorem c_bitsOf (D : Nat) (M : Mem) (hI : PkI 3 M) (g : Int) (g0 : inR g) : CI D 24 [.inr (.inr 3), .inl g] M (fun v M' => v = btZ (M 6) (M 3 4) g ∧ M' = M) := by
  refine mk_C mt_24 rfl (Nat.le_of_ble_eq_true rfl) (L := [some _, some _, none, none]) rfl ?_
  refine w_iconst ta_24 rfl ?_
  refine w_istn_2_4 ta_24 rfl rfl ?_
  refine w_iconst ta_24 rfl ?_
  refine w_istn_3_4 ta_24 rfl rfl ?_
  exact lp_bitsOf D M hI g g0 0 (by omega) hI.1
set_option maxHeartbeats 4000000 in
set_option maxRecDepth 20000 in
theorem lp_emptyGroups (D : Nat) (M : Mem) (hI : PkI 3 M) : ∀ i : Int, 0 ≤ i → i ≤ M 3 5 → Wp (D + 1) 27 (4, [some (.inr (.inr 3)), some (.inl (sumZ (fun g => if ctZ (M 6) (M 3 4) g = 0 then 1 else 0) i)), some (.inl i)], [], M) (fun r M' => ∃ v, r = some (.inl v) ∧ (v = egZ (M 6) (M 3 4) (M 3 5) ∧ M' = M)) := by
  obtain ⟨n0, n1, k0, k1, f0, f1, r0, r1, s0, s1, hA⟩ := pkd_3 hI
  refine loopZ (M 3 5) ?_
  intro i h0 h1 ih
  refine w_iload_n ta_27 rfl rfl ?_
  refine w_aload_n ta_27 rfl rfl ?_
  refine w_getI 5 ta_27 rfl rfl rfl ?_
  refine w_icmp_ge ta_27 rfl ⟨by omega, by omega⟩ ⟨by omega, by omega⟩ (fun h9 => ?_) (fun h9 => ?_)
  · refine w_iload_n ta_27 rfl rfl ?_
    refine w_iret ta_27 rfl (Or.inl rfl) ?_
    exact ⟨_, rfl, by rw [show i = M 3 5 by omega]; rfl, rfl⟩
  · refine w_aload_n ta_27 rfl rfl ?_
    refine w_iload_n ta_27 rfl rfl ?_
    refine w_cI [_, _] _ ta_27 rfl rfl rfl mt_24 rfl rfl rfl rfl (Nat.le_of_ble_eq_true rfl) (fun _ => rfl) rfl (c_bitsOf _ M hI i (by constructor <;> omega)) ?_
    rintro v M2 ⟨rfl, rfl⟩
    have ih := ih h9
    rw [sumZ_s _ h0] at ih
    have b := btZ_bz (M2 6) i n0
    have b2 := ctZ_btz (M2 6) i n0
    have b3 : (2 : Int) ^ (M2 3 4).toNat ≤ 2 ^ 16 := by exact_mod_cast Nat.pow_le_pow_right (by decide : 0 < 2) (show (M2 3 4).toNat ≤ 16 by omega)
    refine w_if_ne ta_27 rfl ⟨by omega, by omega⟩ (fun h17 => ?_) (fun h17 => ?_)
    · refine w_iinc_2_3 ta_27 rfl rfl ?_
      refine w_goto ta_27 rfl ?_
      first
        | (rw [if_pos (by omega)] at ih; exact ih)
        | (rw [if_neg (by omega), Int.add_zero] at ih; exact ih)
    · refine w_iinc_1_3 ta_27 rfl rfl ?_
      refine w_iinc_2_3 ta_27 rfl rfl ?_
      refine w_goto ta_27 rfl ?_
      first
        | (rw [if_pos (by omega)] at ih; exact ih)
        | (rw [if_neg (by omega), Int.add_zero] at ih; exact ih)
set_option maxHeartbeats 4000000 in
set_option maxRecDepth 20000 in
theorem c_emptyGroups (D : Nat) (M : Mem) (hI : PkI 3 M) : CI (D + 1) 27 [.inr (.inr 3)] M (fun v M' => v = egZ (M 6) (M 3 4) (M 3 5) ∧ M' = M) := by
  refine mk_C mt_27 rfl (Nat.le_of_ble_eq_true rfl) (L := [some _, none, none]) rfl ?_
  refine w_iconst ta_27 rfl ?_
  refine w_istn_1_3 ta_27 rfl rfl ?_
  refine w_iconst ta_27 rfl ?_
  refine w_istn_2_3 ta_27 rfl rfl ?_
  exact lp_emptyGroups D M hI 0 (by omega) (by have := (pkd_3 hI).2.2.1; omega)
