/-! a text's tokens -/
def rnN (P : Int → Bool) (L : Int) : Nat → Int → Int
  | 0, p => p
  | d + 1, p => if p < L ∧ P p = true then rnN P L d (p + 1) else p
/-- the first place from p on that P does not take, or L -/
def rnZ (P : Int → Bool) (L p : Int) : Int := rnN P L (L - p).toNat p
theorem rnZ_t {P : Int → Bool} {L p : Int} (h : p < L) (hp : P p = true) : rnZ P L p = rnZ P L (p + 1) := by
  unfold rnZ
  obtain ⟨d, hd⟩ : ∃ d, (L - p).toNat = d + 1 := ⟨(L - p).toNat - 1, by omega⟩
  rw [hd, rnN, if_pos ⟨h, hp⟩, show (L - (p + 1)).toNat = d by omega]
theorem rnZ_f {P : Int → Bool} {L p : Int} (h : ¬ (p < L ∧ P p = true)) : rnZ P L p = p := by
  unfold rnZ
  cases (L - p).toNat with
  | zero => rfl
  | succ d => rw [rnN, if_neg h]
theorem rnN_b (P : Int → Bool) (L : Int) : ∀ (d : Nat) (p : Int), p ≤ rnN P L d p ∧ (p ≤ L → rnN P L d p ≤ L)
  | 0, p => ⟨Int.le_refl _, fun h => h⟩
  | d + 1, p => by
    have ih := rnN_b P L d (p + 1)
    rw [rnN]
    by_cases e : p < L ∧ P p = true
    · rw [if_pos e]
      exact ⟨by omega, fun h => ih.2 (by omega)⟩
    · rw [if_neg e]
      exact ⟨Int.le_refl _, fun h => h⟩
theorem rnZ_b (P : Int → Bool) (L p : Int) : p ≤ rnZ P L p ∧ (p ≤ L → rnZ P L p ≤ L) := rnN_b P L _ p
theorem rnZ_1 {P : Int → Bool} {L p : Int} (h : p < L) (hp : P p = true) : p + 1 ≤ rnZ P L p := by
  rw [rnZ_t h hp]
  exact (rnZ_b P L (p + 1)).1
theorem rnN_end (P : Int → Bool) (L : Int) : ∀ (d : Nat) (p : Int), L - p ≤ d → ¬ (rnN P L d p < L ∧ P (rnN P L d p) = true)
  | 0, p, h => by rw [rnN]; omega
  | d + 1, p, h => by
    rw [rnN]
    by_cases e : p < L ∧ P p = true
    · rw [if_pos e]; exact rnN_end P L d (p + 1) (by omega)
    · rw [if_neg e]; exact e
theorem rnN_all (P : Int → Bool) (L : Int) : ∀ (d : Nat) (p j : Int), p ≤ j → j < rnN P L d p → j < L ∧ P j = true
  | 0, p, j, h0, h1 => by rw [rnN] at h1; omega
  | d + 1, p, j, h0, h1 => by
    rw [rnN] at h1
    by_cases e : p < L ∧ P p = true
    · rw [if_pos e] at h1
      by_cases z : j = p
      · rw [z]; exact e
      · exact rnN_all P L d (p + 1) j (by omega) h1
    · rw [if_neg e] at h1; omega
theorem rnZ_all {P : Int → Bool} {L p j : Int} (h0 : p ≤ j) (h1 : j < rnZ P L p) : j < L ∧ P j = true := rnN_all P L _ p j h0 h1
def spB (t : Int → Int) : Int → Bool := fun q => decide (t q = 32)
def inB (t : Int → Int) (a b : Int) : Int → Bool := fun q => decide (a ≤ t q ∧ t q ≤ b)
theorem spB_t {t : Int → Int} {q : Int} : spB t q = true ↔ t q = 32 := by unfold spB; exact decide_eq_true_iff
theorem inB_t {t : Int → Int} {a b q : Int} : inB t a b q = true ↔ a ≤ t q ∧ t q ≤ b := by unfold inB; exact decide_eq_true_iff
/-- where the token begins, its kind (0 name, 1 number, 2 sign, 3 end, 4 none), the place behind it, its value -/
def tS (t : Int → Int) (L p : Int) : Int := rnZ (spB t) L p
def kS (t : Int → Int) (L s : Int) : Int := if L ≤ s then 3 else if t s = 59 then 2 else if 97 ≤ t s ∧ t s ≤ 122 then 0 else if 48 ≤ t s ∧ t s ≤ 57 then (if 3 < rnZ (inB t 48 57) L s - s then 4 else 1) else 4
def nS (t : Int → Int) (L s : Int) : Int := if L ≤ s then s else if t s = 59 then s + 1 else if 97 ≤ t s ∧ t s ≤ 122 then rnZ (inB t 97 122) L s else rnZ (inB t 48 57) L s
def vdN (t : Int → Int) (s : Int) : Nat → Int
  | 0 => 0
  | m + 1 => 10 * vdN t s m + t (s + m) - 48
def vd (t : Int → Int) (s e : Int) : Int := vdN t s (e - s).toNat
theorem vd_s (t : Int → Int) {s e : Int} (h : s ≤ e) : vd t s (e + 1) = 10 * vd t s e + t e - 48 := by
  unfold vd
  rw [show (e + 1 - s).toNat = (e - s).toNat + 1 by omega, vdN, show s + (((e - s).toNat : Nat) : Int) = e by omega]
theorem vd_0 (t : Int → Int) (s : Int) : vd t s s = 0 := by unfold vd; rw [show (s - s).toNat = 0 by omega]; rfl
theorem vdN_b {t : Int → Int} {s : Int} : ∀ m : Nat, (∀ j : Int, s ≤ j → j < s + m → 48 ≤ t j ∧ t j ≤ 57) → 0 ≤ vdN t s m ∧ vdN t s m < 10 ^ m
  | 0, _ => ⟨Int.le_refl _, by show (0 : Int) < 1; omega⟩
  | m + 1, h => by
    have ih := vdN_b m (fun j a b => h j a (by omega))
    have q := h (s + m) (by omega) (by omega)
    rw [vdN, Int.pow_succ]
    omega
def tK (t : Int → Int) (L p : Int) : Int := kS t L (tS t L p)
def tN (t : Int → Int) (L p : Int) : Int := nS t L (tS t L p)
def tV (t : Int → Int) (L p : Int) : Int := vd t (tS t L p) (tN t L p)
theorem kS_b (t : Int → Int) (L s : Int) : 0 ≤ kS t L s ∧ kS t L s ≤ 4 := by
  unfold kS
  repeat' split
  all_goals omega
theorem tK_b (t : Int → Int) (L p : Int) : 0 ≤ tK t L p ∧ tK t L p ≤ 4 := kS_b _ _ _
theorem nS_b {t : Int → Int} {L s : Int} (h : s ≤ L) : s ≤ nS t L s ∧ nS t L s ≤ L := by
  unfold nS
  by_cases a : L ≤ s
  · rw [if_pos a]; omega
  · rw [if_neg a]
    by_cases b : t s = 59
    · rw [if_pos b]; omega
    · rw [if_neg b]
      split
      · have := rnZ_b (inB t 97 122) L s; exact ⟨this.1, this.2 h⟩
      · have := rnZ_b (inB t 48 57) L s; exact ⟨this.1, this.2 h⟩
theorem tS_b {t : Int → Int} {L p : Int} (h : p ≤ L) : p ≤ tS t L p ∧ tS t L p ≤ L := ⟨(rnZ_b _ L p).1, (rnZ_b _ L p).2 h⟩
theorem tN_b {t : Int → Int} {L p : Int} (h : p ≤ L) : p ≤ tN t L p ∧ tN t L p ≤ L := by
  have a := tS_b (t := t) h
  have b := nS_b (t := t) a.2
  unfold tN
  omega
/-- a name, a number or a sign has letters -/
theorem nS_1 {t : Int → Int} {L s : Int} (h : kS t L s < 3) : s + 1 ≤ nS t L s ∧ s < L := by
  unfold kS at h
  unfold nS
  by_cases a : L ≤ s
  · rw [if_pos a] at h; omega
  · rw [if_neg a] at h ⊢
    by_cases b : t s = 59
    · rw [if_pos b]; omega
    · rw [if_neg b] at h ⊢
      by_cases c : 97 ≤ t s ∧ t s ≤ 122
      · rw [if_pos c]
        exact ⟨rnZ_1 (by omega) (inB_t.mpr c), by omega⟩
      · rw [if_neg c] at h ⊢
        by_cases d : 48 ≤ t s ∧ t s ≤ 57
        · exact ⟨rnZ_1 (by omega) (inB_t.mpr d), by omega⟩
        · rw [if_neg d] at h; omega
theorem tN_1 {t : Int → Int} {L p : Int} (h : tK t L p < 3) : p + 1 ≤ tN t L p := by
  have a := nS_1 h
  have b := (rnZ_b (spB t) L p).1
  unfold tN
  have : tS t L p = rnZ (spB t) L p := rfl
  omega
theorem tV_b {t : Int → Int} {L p : Int} (h : tK t L p = 1) : 0 ≤ tV t L p ∧ tV t L p ≤ 999 := by
  unfold tK kS at h
  unfold tV tN nS vd
  generalize tS t L p = s at *
  by_cases a : L ≤ s
  · rw [if_pos a] at h; omega
  · rw [if_neg a] at h
    rw [if_neg a]
    by_cases b : t s = 59
    · rw [if_pos b] at h; omega
    · rw [if_neg b] at h
      rw [if_neg b]
      by_cases c : 97 ≤ t s ∧ t s ≤ 122
      · rw [if_pos c] at h; omega
      · rw [if_neg c] at h
        rw [if_neg c]
        by_cases d : 48 ≤ t s ∧ t s ≤ 57
        · rw [if_pos d] at h
          by_cases e : 3 < rnZ (inB t 48 57) L s - s
          · rw [if_pos e] at h; omega
          · have b := vdN_b (t := t) (s := s) (rnZ (inB t 48 57) L s - s).toNat (fun j j0 j1 => inB_t.mp (rnZ_all (P := inB t 48 57) (L := L) j0 (by omega)).2)
            have e3 : (rnZ (inB t 48 57) L s - s).toNat = 0 ∨ (rnZ (inB t 48 57) L s - s).toNat = 1 ∨ (rnZ (inB t 48 57) L s - s).toNat = 2 ∨ (rnZ (inB t 48 57) L s - s).toNat = 3 := by omega
            rcases e3 with q | q | q | q <;> rw [q] at b ⊢
            · have : (10 : Int) ^ 0 = 1 := rfl
              omega
            · have : (10 : Int) ^ 1 = 10 := rfl
              omega
            · have : (10 : Int) ^ 2 = 100 := rfl
              omega
            · have : (10 : Int) ^ 3 = 1000 := rfl
              omega
        · rw [if_neg d] at h; omega
/-- which line a name begins -/
def isW (t : Int → Int) (s e : Int) (w : List Int) : Bool := decide (e - s = w.length ∧ ∀ j : Nat, j < w.length → t (s + j) = w.getD j 0)
theorem isW_t {t : Int → Int} {s e : Int} {w : List Int} : isW t s e w = true ↔ e - s = w.length ∧ ∀ j : Nat, j < w.length → t (s + j) = w.getD j 0 := by unfold isW; exact decide_eq_true_iff
def wG : List Int := [103, 114, 111, 117, 112, 115]
def wC : List Int := [99, 101, 108, 108, 115]
def wF : List Int := [102, 108, 111, 111, 114]
def wR : List Int := [114, 97, 116, 101]
def wS : List Int := [115, 108, 97, 99, 107]
def lnZ (t : Int → Int) (s e : Int) : Int := if isW t s e wG = true then 1 else if isW t s e wC = true then 0 else if isW t s e wF = true then 2 else if isW t s e wR = true then 3 else if isW t s e wS = true then 4 else -4
theorem lnZ_b (t : Int → Int) (s e : Int) : lnZ t s e = -4 ∨ (0 ≤ lnZ t s e ∧ lnZ t s e ≤ 4) := by
  unfold lnZ
  repeat' split
  all_goals omega
def loZ (w : Int) : Int := if w = 1 then 2 else if w = 3 then 1 else 0
def hiW (w : Int) : Int := if w = 1 then 5 else if w = 2 then 999 else 99
/-- what reading gives: a code (0 more, -1 the end, else the fault), its place, the next place, settings, charges, lines met -/
abbrev Rs := Int × Int × Int × (Int → Int) × (Int → Int) × (Int → Int)
def spC (t : Int → Int) (L : Int) (md : Int → Int) : Nat → Int → (Int → Int) → (Int → Int) → Int → Rs
  | 0, p, dr, ch, td => if tK t L p = 4 then (1, tS t L p, p, dr, ch, md) else if tK t L p = 2 ∧ 0 < td then (0, 0, tN t L p, dr, ch, md) else if tK t L p ≠ 1 then (2, tS t L p, p, dr, ch, md) else (5, tS t L p, p, dr, ch, md)
  | d + 1, p, dr, ch, td => if tK t L p = 4 then (1, tS t L p, p, dr, ch, md) else if tK t L p = 2 ∧ 0 < td then (0, 0, tN t L p, dr, ch, md) else if tK t L p ≠ 1 then (2, tS t L p, p, dr, ch, md) else if ¬ (1 ≤ tV t L p ∧ tV t L p ≤ 999) then (3, tS t L p, p, dr, ch, md) else spC t L md d (tN t L p) (upI dr 0 (dr 0 + 1)) (upI ch (dr 0) (tV t L p)) (td + 1)
def spN (t : Int → Int) (L : Int) (md : Int → Int) (w p : Int) (dr ch : Int → Int) : Rs := if tK t L p = 4 then (1, tS t L p, p, dr, ch, md) else if tK t L p ≠ 1 then (2, tS t L p, p, dr, ch, md) else if ¬ (loZ w ≤ tV t L p ∧ tV t L p ≤ hiW w) then (3, tS t L p, p, dr, ch, md) else if tK t L (tN t L p) = 4 then (1, tS t L (tN t L p), p, dr, ch, md) else if tK t L (tN t L p) ≠ 2 then (2, tS t L (tN t L p), p, dr, ch, md) else (0, 0, tN t L (tN t L p), upI dr w (tV t L p), ch, upI md w 1)
def tW (t : Int → Int) (L p : Int) : Int := if tK t L p = 0 then lnZ t (tS t L p) (tN t L p) else -4
def spL (t : Int → Int) (L : Int) (p : Int) (dr ch md : Int → Int) : Rs := if tK t L p = 4 then (1, tS t L p, p, dr, ch, md) else if tK t L p = 3 then (-1, 0, p, dr, ch, md) else if tW t L p = -4 then (2, tS t L p, p, dr, ch, md) else if tW t L p = 0 then spC t L md (16 - dr 0).toNat (tN t L p) dr ch 0 else if md (tW t L p) = 1 then (4, tS t L p, p, dr, ch, md) else spN t L md (tW t L p) (tN t L p) dr ch
def spT (t : Int → Int) (L : Int) : Nat → Int → (Int → Int) → (Int → Int) → (Int → Int) → Rs
  | 0, p, dr, ch, md => (-1, 0, p, dr, ch, md)
  | d + 1, p, dr, ch, md => if (spL t L p dr ch md).1 = 0 then spT t L d (spL t L p dr ch md).2.2.1 (spL t L p dr ch md).2.2.2.1 (spL t L p dr ch md).2.2.2.2.1 (spL t L p dr ch md).2.2.2.2.2 else spL t L p dr ch md
/-- settings in bounds -/
def DrI (dr ch : Int → Int) : Prop := 0 ≤ dr 0 ∧ dr 0 ≤ 16 ∧ 2 ≤ dr 1 ∧ dr 1 ≤ 5 ∧ 0 ≤ dr 2 ∧ dr 2 ≤ 999 ∧ 1 ≤ dr 3 ∧ dr 3 ≤ 99 ∧ 0 ≤ dr 4 ∧ dr 4 ≤ 99 ∧ ∀ i, 0 ≤ i → i < dr 0 → 1 ≤ ch i ∧ ch i ≤ 999
