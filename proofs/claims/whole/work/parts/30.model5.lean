/-! the reference: sheets, counts -/
def mLn (v : Int) : Int := if v = -4 then -1 else v
theorem mv_I {M : Mem} (hI : MdI M) {x g : Int} (x0 : 0 ≤ x) (x1 : x < M 81 0) (g0 : 0 ≤ g) (g1 : g < M 81 1) : MdI (wr M 81 (37 + x) g) := by
  obtain ⟨n0, n1, k0, k1, f0, f1, r0, r1, s0, s1, hA⟩ := id hI
  have e : ∀ z, z < 37 → wr M 81 (37 + x) g 81 z = M 81 z := fun z hz => by rw [wr_s, up_n _ _ (by omega)]
  unfold MdI
  rw [e 0 (by omega), e 1 (by omega), e 2 (by omega), e 3 (by omega), e 4 (by omega)]
  refine ⟨n0, n1, k0, k1, f0, f1, r0, r1, s0, s1, fun i h0 h1 => ?_⟩
  rw [e (5 + i) (by omega), e (21 + i) (by omega), wr_s]
  have := hA i h0 h1
  unfold upI
  split <;> omega
set_option maxHeartbeats 4000000 in
set_option maxRecDepth 20000 in
theorem cm_isSheet (D : Nat) (M : Mem) (x l : Int) (hx : inR x) (hl : inR l) : CI (D + 1) 186 [.inl x, .inl l] M (fun v M' => ((v = 1 ∧ (0 ≤ x ∧ x < 4) ∧ 0 ≤ l ∧ l < 3) ∨ (v = 0 ∧ ¬ ((0 ≤ x ∧ x < 4) ∧ 0 ≤ l ∧ l < 3))) ∧ M' = M) := by
  refine mk_C mt_186 rfl (Nat.le_of_ble_eq_true rfl) (L := [some _, some _]) rfl ?_
  obtain ⟨x0, x1⟩ := id hx
  obtain ⟨l0, l1⟩ := id hl
  refine w_iload_n ta_186 rfl rfl ?_
  refine w_i2l ta_186 rfl ⟨by omega, by omega⟩ ?_
  refine w_lconst ta_186 rfl ?_
  refine w_ldc2_w ta_186 rfl ?_
  refine w_cI [_, _, _] _ ta_186 rfl rfl rfl mt_106 rfl rfl rfl rfl (Nat.le_of_ble_eq_true rfl) (fun q => by cases q) rfl (cm_in _ x 0 3 M (by constructor <;> omega) (by constructor <;> omega) (by constructor <;> omega)) ?_
  rintro v M2 ⟨hv, rfl⟩
  refine w_if_eq ta_186 rfl ⟨by omega, by omega⟩ (fun h9 => ?_) (fun h9 => ?_)
  · refine w_iconst ta_186 rfl ?_
    refine w_iret ta_186 rfl (Or.inr ⟨rfl, by omega⟩) ?_
    exact ⟨_, rfl, by omega, rfl⟩
  · refine w_iload_n ta_186 rfl rfl ?_
    refine w_i2l ta_186 rfl ⟨by omega, by omega⟩ ?_
    refine w_lconst ta_186 rfl ?_
    refine w_ldc2_w ta_186 rfl ?_
    refine w_cI [_, _, _] _ ta_186 rfl rfl rfl mt_106 rfl rfl rfl rfl (Nat.le_of_ble_eq_true rfl) (fun q => by cases q) rfl (cm_in _ l 0 2 M2 (by constructor <;> omega) (by constructor <;> omega) (by constructor <;> omega)) ?_
    rintro v2 M3 ⟨hv2, rfl⟩
    refine w_if_eq ta_186 rfl ⟨by omega, by omega⟩ (fun h21 => ?_) (fun h21 => ?_)
    · refine w_iconst ta_186 rfl ?_
      refine w_iret ta_186 rfl (Or.inr ⟨rfl, by omega⟩) ?_
      exact ⟨_, rfl, by omega, rfl⟩
    · refine w_iconst ta_186 rfl ?_
      refine w_goto ta_186 rfl ?_
      refine w_iret ta_186 rfl (Or.inr ⟨rfl, by omega⟩) ?_
      exact ⟨_, rfl, by omega, rfl⟩
def shZ (f : Int → Int) (a i : Int) : Int → Int := fun z => if a ≤ z ∧ z < a + i then 0 else f z
theorem shZ_0 (f : Int → Int) (a : Int) : shZ f a 0 = f := by funext z; exact if_neg (by omega)
theorem shZ_s (f : Int → Int) (a : Int) {i : Int} (h : 0 ≤ i) : upI (shZ f a i) (a + i) 0 = shZ f a (i + 1) := by
  funext z
  unfold upI shZ
  by_cases e : z = a + i
  · subst e; rw [if_pos rfl, if_pos (by omega)]
  · rw [if_neg e]
    by_cases b : a ≤ z ∧ z < a + i
    · rw [if_pos b, if_pos (by omega)]
    · rw [if_neg b, if_neg (by omega)]
set_option maxHeartbeats 4000000 in
set_option maxRecDepth 20000 in
theorem lm_sheet (D : Nat) (M : Mem) (x l n : Int) (x0 : 0 ≤ x) (x1 : x < 4) : ∀ i : Int, 0 ≤ i → i ≤ 40 → Wp (D + 2) 187 (40, [some (.inr (.inr 80)), some (.inl x), some (.inl l), some (.inl n), some (.inl i)], [], setC M 97 (shZ (M 97) (40 * x) i)) (fun r M' => ∃ v, r = some (.inl v) ∧ (v = 1 ∧ M' = setC M 97 (shZ (M 97) (40 * x) 40))) := by
  refine loopZ 40 ?_
  intro i h0 h1 ih
  refine w_iload ta_187 rfl rfl ?_
  refine w_bipush ta_187 rfl ?_
  refine w_icmp_ge ta_187 rfl ⟨by omega, by omega⟩ ⟨by omega, by omega⟩ (fun h44 => ?_) (fun h44 => ?_)
  · refine w_iconst ta_187 rfl ?_
    refine w_iret ta_187 rfl (Or.inl rfl) ?_
    exact ⟨_, rfl, rfl, by rw [show i = 40 by omega]⟩
  · refine w_aload_n ta_187 rfl rfl ?_
    refine w_getR ta_187 rfl rfl ?_
    refine w_bipush ta_187 rfl ?_
    refine w_iload_n ta_187 rfl rfl ?_
    refine w_imul ta_187 rfl ?_
    refine w_iload ta_187 rfl rfl ?_
    refine w_iadd ta_187 rfl ?_
    refine w_iconst ta_187 rfl ?_
    refine w_iastore ta_187 rfl rfl (by omega) (by omega) (by omega) ?_
    refine w_iinc_4_5 ta_187 rfl rfl ?_
    refine w_goto ta_187 rfl ?_
    rw [wr_sc, shZ_s _ _ h0]
    exact ih h44
set_option maxHeartbeats 4000000 in
set_option maxRecDepth 20000 in
theorem cm_sheet (D : Nat) (M : Mem) (x l n : Int) (hx : inR x) (hl : inR l) (hn : inR n) : CI (D + 2) 187 [.inr (.inr 80), .inl x, .inl l, .inl n] M (fun v M' => (¬ ((0 ≤ x ∧ x < 4) ∧ (0 ≤ l ∧ l < 3) ∧ n ≤ 40 ∧ 0 ≤ n) ∧ v = (if (0 ≤ x ∧ x < 4) ∧ (0 ≤ l ∧ l < 3) ∧ n ≤ 40 then -14 else -1) ∧ M' = M) ∨ (((0 ≤ x ∧ x < 4) ∧ (0 ≤ l ∧ l < 3) ∧ n ≤ 40 ∧ 0 ≤ n) ∧ v = 1 ∧ M' = setC (wr (wr M 95 x l) 96 x n) 97 (shZ (M 97) (40 * x) 40))) := by
  refine mk_C mt_187 rfl (Nat.le_of_ble_eq_true rfl) (L := [some _, some _, some _, some _, none]) rfl ?_
  obtain ⟨x0, x1⟩ := id hx
  obtain ⟨l0, l1⟩ := id hl
  obtain ⟨m0, m1⟩ := id hn
  refine w_iload_n ta_187 rfl rfl ?_
  refine w_iload_n ta_187 rfl rfl ?_
  refine w_cI [_, _] _ ta_187 rfl rfl rfl mt_186 rfl rfl rfl rfl (Nat.le_of_ble_eq_true rfl) (fun q => by cases q) rfl (cm_isSheet _ M x l hx hl) ?_
  rintro v M2 ⟨hv, rfl⟩
  refine w_if_eq ta_187 rfl ⟨by omega, by omega⟩ (fun h5 => ?_) (fun h5 => ?_)
  · refine w_iconst ta_187 rfl ?_
    refine w_iret ta_187 rfl (Or.inl rfl) ?_
    exact ⟨_, rfl, Or.inl ⟨by omega, by rw [if_neg (by omega)], rfl⟩⟩
  · refine w_iload_n ta_187 rfl rfl ?_
    refine w_bipush ta_187 rfl ?_
    refine w_icmp_le ta_187 rfl ⟨by omega, by omega⟩ ⟨by omega, by omega⟩ (fun h11 => ?_) (fun h11 => ?_)
    · refine w_iload_n ta_187 rfl rfl ?_
      refine w_if_ge ta_187 rfl ⟨by omega, by omega⟩ (fun h17 => ?_) (fun h17 => ?_)
      · refine w_aload_n ta_187 rfl rfl ?_
        refine w_getR ta_187 rfl rfl ?_
        refine w_iload_n ta_187 rfl rfl ?_
        refine w_iload_n ta_187 rfl rfl ?_
        refine w_iastore ta_187 rfl rfl (by omega) (by omega) (by omega) ?_
        refine w_aload_n ta_187 rfl rfl ?_
        refine w_getR ta_187 rfl rfl ?_
        refine w_iload_n ta_187 rfl rfl ?_
        refine w_iload_n ta_187 rfl rfl ?_
        refine w_iastore ta_187 rfl rfl (by omega) (by omega) (by omega) ?_
        refine w_iconst ta_187 rfl ?_
        refine w_ist_4_5 ta_187 rfl rfl ?_
        have q := lm_sheet D (wr (wr M2 95 x l) 96 x n) x l n (by omega) (by omega) 0 (by omega) (by omega)
        rw [shZ_0, sc_id] at q
        refine q.imp ?_
        rintro r M3 ⟨w, hr, hw, hM⟩
        refine ⟨w, hr, Or.inr ⟨by omega, hw, ?_⟩⟩
        rw [hM, wr_n _ _ _ (by decide), wr_n _ _ _ (by decide)]
      · refine w_bipush ta_187 rfl ?_
        refine w_iret ta_187 rfl (Or.inl rfl) ?_
        exact ⟨_, rfl, Or.inl ⟨by omega, by rw [if_pos (by omega)], rfl⟩⟩
    · refine w_iconst ta_187 rfl ?_
      refine w_iret ta_187 rfl (Or.inl rfl) ?_
      exact ⟨_, rfl, Or.inl ⟨by omega, by rw [if_neg (by omega)], rfl⟩⟩
set_option maxHeartbeats 4000000 in
set_option maxRecDepth 20000 in
theorem cm_lay (D : Nat) (M : Mem) (hL : ∀ j, 0 ≤ j → j < 4 → -4 ≤ M 95 j ∧ M 95 j ≤ 2 ∧ M 95 j ≠ -1 ∧ 0 ≤ M 96 j ∧ M 96 j ≤ 40) (x i v : Int) (hx : inR x) (hi : inR i) : CI (D + 2) 188 [.inr (.inr 80), .inl x, .inl i, .inl v] M (fun w M' => (¬ (0 ≤ x ∧ x < 4) ∧ w = -1 ∧ M' = M) ∨ ((0 ≤ x ∧ x < 4) ∧ M 95 x = -4 ∧ w = -11 ∧ M' = M) ∨ ((0 ≤ x ∧ x < 4) ∧ M 95 x ≠ -4 ∧ ¬ (0 ≤ i ∧ i < M 96 x) ∧ w = -12 ∧ M' = M) ∨ ((0 ≤ x ∧ x < 4) ∧ M 95 x ≠ -4 ∧ (0 ≤ i ∧ i < M 96 x) ∧ w = 1 ∧ M' = wr M 97 (40 * x + i) (laV (M 95 x) v))) := by
  refine mk_C mt_188 rfl (Nat.le_of_ble_eq_true rfl) (L := [some _, some _, some _, some _]) rfl ?_
  obtain ⟨x0, x1⟩ := id hx
  obtain ⟨i0, i1⟩ := id hi
  refine w_iload_n ta_188 rfl rfl ?_
  refine w_iconst ta_188 rfl ?_
  refine w_cI [_, _] _ ta_188 rfl rfl rfl mt_186 rfl rfl rfl rfl (Nat.le_of_ble_eq_true rfl) (fun q => by cases q) rfl (cm_isSheet _ M x 0 hx (by decide)) ?_
  rintro w M2 ⟨hw, rfl⟩
  refine w_if_ne ta_188 rfl ⟨by omega, by omega⟩ (fun h5 => ?_) (fun h5 => ?_)
  · have hq := hL x (by omega) (by omega)
    refine w_aload_n ta_188 rfl rfl ?_
    refine w_getR ta_188 rfl rfl ?_
    refine w_iload_n ta_188 rfl rfl ?_
    refine w_iaload ta_188 rfl rfl (by omega) (by omega) (by omega) ?_
    refine w_bipush ta_188 rfl ?_
    refine w_icmp_ne ta_188 rfl ⟨by omega, by omega⟩ ⟨by omega, by omega⟩ (fun h18 => ?_) (fun h18 => ?_)
    · refine w_iload_n ta_188 rfl rfl ?_
      refine w_i2l ta_188 rfl ⟨by omega, by omega⟩ ?_
      refine w_lconst ta_188 rfl ?_
      refine w_aload_n ta_188 rfl rfl ?_
      refine w_getR ta_188 rfl rfl ?_
      refine w_iload_n ta_188 rfl rfl ?_
      refine w_iaload ta_188 rfl rfl (by omega) (by omega) (by omega) ?_
      refine w_iconst ta_188 rfl ?_
      refine w_isub ta_188 rfl ?_
      refine w_i2l ta_188 rfl ⟨by omega, by omega⟩ ?_
      refine w_cI [_, _, _] _ ta_188 rfl rfl rfl mt_106 rfl rfl rfl rfl (Nat.le_of_ble_eq_true rfl) (fun q => by cases q) rfl (cm_in _ i 0 _ M2 (by constructor <;> omega) (by constructor <;> omega) (by constructor <;> omega)) ?_
      rintro w2 M3 ⟨hw2, rfl⟩
      refine w_if_ne ta_188 rfl ⟨by omega, by omega⟩ (fun h39 => ?_) (fun h39 => ?_)
      · refine w_aload_n ta_188 rfl rfl ?_
        refine w_getR ta_188 rfl rfl ?_
        refine w_bipush ta_188 rfl ?_
        refine w_iload_n ta_188 rfl rfl ?_
        refine w_imul ta_188 rfl ?_
        refine w_iload_n ta_188 rfl rfl ?_
        refine w_iadd ta_188 rfl ?_
        refine w_aload_n ta_188 rfl rfl ?_
        refine w_getR ta_188 rfl rfl ?_
        refine w_iload_n ta_188 rfl rfl ?_
        refine w_iaload ta_188 rfl rfl (by omega) (by omega) (by omega) ?_
        refine w_if_ne ta_188 rfl ⟨by omega, by omega⟩ (fun h61 => ?_) (fun h61 => ?_)
        · refine w_aload_n ta_188 rfl rfl ?_
          refine w_getR ta_188 rfl rfl ?_
          refine w_iload_n ta_188 rfl rfl ?_
          refine w_iaload ta_188 rfl rfl (by omega) (by omega) (by omega) ?_
          refine w_iconst ta_188 rfl ?_
          refine w_icmp_ne ta_188 rfl ⟨by omega, by omega⟩ ⟨by omega, by omega⟩ (fun h76 => ?_) (fun h76 => ?_)
          · refine w_iload_n ta_188 rfl rfl ?_
            refine w_iastore ta_188 rfl rfl (by omega) (by omega) (by omega) ?_
            refine w_iconst ta_188 rfl ?_
            refine w_iret ta_188 rfl (Or.inl rfl) ?_
            refine ⟨_, rfl, Or.inr (Or.inr (Or.inr ⟨by omega, by omega, by omega, rfl, ?_⟩))⟩
            unfold laV
            first
              | rw [if_pos (by omega)]
              | rw [if_neg (by omega), if_pos (by omega)]
              | rw [if_neg (by omega), if_neg (by omega)]
          · refine w_iload_n ta_188 rfl rfl ?_
            refine w_i2s ta_188 rfl ?_
            refine w_goto ta_188 rfl ?_
            refine w_iastore ta_188 rfl rfl (by omega) (by omega) (by omega) ?_
            refine w_iconst ta_188 rfl ?_
            refine w_iret ta_188 rfl (Or.inl rfl) ?_
            refine ⟨_, rfl, Or.inr (Or.inr (Or.inr ⟨by omega, by omega, by omega, rfl, ?_⟩))⟩
            unfold laV
            first
              | rw [if_pos (by omega)]
              | rw [if_neg (by omega), if_pos (by omega)]
              | rw [if_neg (by omega), if_neg (by omega)]
        · refine w_iload_n ta_188 rfl rfl ?_
          refine w_i2b ta_188 rfl ?_
          refine w_goto ta_188 rfl ?_
          refine w_iastore ta_188 rfl rfl (by omega) (by omega) (by omega) ?_
          refine w_iconst ta_188 rfl ?_
          refine w_iret ta_188 rfl (Or.inl rfl) ?_
          refine ⟨_, rfl, Or.inr (Or.inr (Or.inr ⟨by omega, by omega, by omega, rfl, ?_⟩))⟩
          unfold laV
          first
            | rw [if_pos (by omega)]
            | rw [if_neg (by omega), if_pos (by omega)]
            | rw [if_neg (by omega), if_neg (by omega)]
      · refine w_bipush ta_188 rfl ?_
        refine w_iret ta_188 rfl (Or.inl rfl) ?_
        exact ⟨_, rfl, Or.inr (Or.inr (Or.inl ⟨by omega, by omega, by omega, rfl, rfl⟩))⟩
    · refine w_bipush ta_188 rfl ?_
      refine w_iret ta_188 rfl (Or.inl rfl) ?_
      exact ⟨_, rfl, Or.inr (Or.inl ⟨by omega, by omega, rfl, rfl⟩)⟩
  · refine w_iconst ta_188 rfl ?_
    refine w_iret ta_188 rfl (Or.inl rfl) ?_
    exact ⟨_, rfl, Or.inl ⟨by omega, rfl, rfl⟩⟩
/-- why a place can't be read -/
def rsZ (lane l size p : Int) : Int := if lane = -4 then 1 else if lane ≠ l then 3 else if p < 0 ∨ size ≤ p then 2 else 0
theorem rsZ_b (lane l size p : Int) : 0 ≤ rsZ lane l size p ∧ rsZ lane l size p ≤ 3 := by
  unfold rsZ
  repeat' split
  all_goals omega
theorem mLn_1 {lane : Int} (h1 : lane ≠ -1) : mLn lane = -1 ↔ lane = -4 := by
  unfold mLn
  by_cases e : lane = -4
  · rw [if_pos e]; omega
  · rw [if_neg e]; omega
theorem mLn_l {lane l : Int} (h0 : 0 ≤ l) (h1 : lane ≠ -1) : mLn lane = l ↔ lane = l := by
  unfold mLn
  by_cases e : lane = -4
  · rw [if_pos e]; omega
  · rw [if_neg e]
theorem rsZ_0 {lane l size p : Int} (h0 : 0 ≤ l) : rsZ lane l size p = 0 ↔ lane = l ∧ 0 ≤ p ∧ p < size := by
  unfold rsZ
  by_cases a : lane = -4
  · rw [if_pos a]; omega
  · rw [if_neg a]
    by_cases b : lane = l
    · rw [if_neg (by omega)]
      by_cases c : p < 0 ∨ size ≤ p
      · rw [if_pos c]; omega
      · rw [if_neg c]; omega
    · rw [if_pos b]; omega
theorem rsZ_fa {lane l size p : Int} (h0 : 0 ≤ l) (h1 : lane ≠ -1) (h : rsZ lane l size p ≠ 0) : rsZ lane l size p = faZ l (mLn lane) := by
  unfold faZ
  have e := mLn_l h0 h1
  by_cases a : lane = -4
  · rw [if_pos (by unfold mLn; rw [if_pos a])]
    unfold rsZ
    rw [if_pos a]
  · have m : mLn lane = lane := by unfold mLn; rw [if_neg a]
    rw [if_neg (by omega), m]
    by_cases b : lane = l
    · rw [if_pos b]
      unfold rsZ at h ⊢
      rw [if_neg a, if_neg (by omega)] at h ⊢
      by_cases c : p < 0 ∨ size ≤ p
      · rw [if_pos c]
      · rw [if_neg c] at h; omega
    · rw [if_neg b]
      unfold rsZ
      rw [if_neg a, if_pos b]
theorem wh_end {lane l size f n i : Int} (h0 : 0 ≤ l) (h1 : lane ≠ -1) (i0 : 0 ≤ i) (i1 : i < n) (hC : i = 0 ∨ (lane = l ∧ 0 ≤ f ∧ f + 2 * i ≤ size)) (hz : ¬ (lane = l ∧ 0 ≤ f + 2 * i ∧ f + 2 * i + 1 < size)) : whZ l (mLn lane) size f n = i := by
  unfold whZ
  have e := mLn_l h0 h1
  by_cases a : mLn lane = l ∧ 0 ≤ f ∧ f < size
  · rw [if_pos a]
    by_cases b : (size - f) / 2 < n
    · rw [if_pos b]; omega
    · rw [if_neg b]; omega
  · rw [if_neg a]; omega
theorem wh_all {lane l size f n i : Int} (h0 : 0 ≤ l) (h1 : lane ≠ -1) (i0 : 0 ≤ i) (i1 : i = n) (hC : i = 0 ∨ (lane = l ∧ 0 ≤ f ∧ f + 2 * i ≤ size)) : whZ l (mLn lane) size f n = n := by
  unfold whZ
  have e := mLn_l h0 h1
  by_cases a : mLn lane = l ∧ 0 ≤ f ∧ f < size
  · rw [if_pos a]
    by_cases b : (size - f) / 2 < n
    · rw [if_pos b]; omega
    · rw [if_neg b]
  · rw [if_neg a]; omega
theorem wh_more {lane l size f n i : Int} (h0 : 0 ≤ l) (h1 : lane ≠ -1) (i0 : 0 ≤ i) (i1 : i < n) (f0 : 0 ≤ f) (hz : lane = l ∧ 0 ≤ f + 2 * i ∧ f + 2 * i + 1 < size) : i < whZ l (mLn lane) size f n := by
  unfold whZ
  have e := mLn_l h0 h1
  rw [if_pos ⟨e.mpr hz.1, f0, by omega⟩]
  by_cases b : (size - f) / 2 < n
  · rw [if_pos b]; omega
  · rw [if_neg b]; omega
set_option maxHeartbeats 4000000 in
set_option maxRecDepth 20000 in
theorem lm_read_c (D : Nat) (N : Mem) (x l f n w i c : Int) (a b : Option AV) (x0 : 0 ≤ x) (x1 : x < 4) (hl : inR l) (hL : -4 ≤ N 95 x ∧ N 95 x ≤ 2 ∧ 0 ≤ N 96 x ∧ N 96 x ≤ 40) (hf : inR f) (i0 : 0 ≤ i) (i1 : i < 20) (c0 : 0 ≤ c) (c1 : c < 2) (P : Option AV → Mem → Prop) (hP : Wp (D + 3) 189 (51, [some (.inr (.inr 80)), some (.inl x), some (.inl l), some (.inl f), some (.inl n), some (.inl (rsZ (N 95 x) l (N 96 x) (f + 2 * i + c))), some (.inl w), some (.inl i), some (.inl (c + 1)), some (.inr (.inl (f + 2 * i + c))), none], [], N) P) : Wp (D + 3) 189 (62, [some (.inr (.inr 80)), some (.inl x), some (.inl l), some (.inl f), some (.inl n), some (.inl 0), some (.inl w), some (.inl i), some (.inl c), a, b], [], N) P := by
  obtain ⟨f0, f1⟩ := id hf
  obtain ⟨l0, l1⟩ := id hl
  refine w_iload_n ta_189 rfl rfl ?_
  refine w_i2l ta_189 rfl ⟨by omega, by omega⟩ ?_
  refine w_iconst ta_189 rfl ?_
  refine w_iload ta_189 rfl rfl ?_
  refine w_imul ta_189 rfl ?_
  refine w_i2l ta_189 rfl ⟨by omega, by omega⟩ ?_
  refine w_ladd ta_189 rfl ?_
  refine w_iload ta_189 rfl rfl ?_
  refine w_i2l ta_189 rfl ⟨by omega, by omega⟩ ?_
  refine w_ladd ta_189 rfl ?_
  refine w_lst_9_11 ta_189 rfl rfl ?_
  refine w_aload_n ta_189 rfl rfl ?_
  refine w_getR ta_189 rfl rfl ?_
  refine w_iload_n ta_189 rfl rfl ?_
  refine w_iaload ta_189 rfl rfl (by omega) (by omega) (by omega) ?_
  refine w_bipush ta_189 rfl ?_
  refine w_icmp_ne ta_189 rfl ⟨by omega, by omega⟩ ⟨by omega, by omega⟩ (fun h84 => ?_) (fun h84 => ?_)
  · refine w_aload_n ta_189 rfl rfl ?_
    refine w_getR ta_189 rfl rfl ?_
    refine w_iload_n ta_189 rfl rfl ?_
    refine w_iaload ta_189 rfl rfl (by omega) (by omega) (by omega) ?_
    refine w_iload_n ta_189 rfl rfl ?_
    refine w_icmp_eq ta_189 rfl ⟨by omega, by omega⟩ ⟨by omega, by omega⟩ (fun h98 => ?_) (fun h98 => ?_)
    · refine w_lload ta_189 rfl rfl ?_
      refine w_lconst ta_189 rfl ?_
      refine w_lcmp ta_189 rfl ⟨by omega, by omega⟩ ⟨by omega, by omega⟩ ?_
      refine w_if_lt ta_189 rfl (by split <;> (try split) <;> decide) (fun h109 => ?_) (fun h109 => ?_)
      · have q : f + 2 * i + c < 0 := by
          rcases Int.lt_trichotomy 0 (f + 2 * i + c) with z | z | z
          · rw [if_pos z] at h109; omega
          · rw [if_neg (by omega), if_pos z.symm] at h109; omega
          · exact z
        refine w_iconst ta_189 rfl ?_
        refine w_goto ta_189 rfl ?_
        refine w_ist_5_11 ta_189 rfl rfl ?_
        refine w_iinc_8_11 ta_189 rfl rfl ?_
        refine w_goto ta_189 rfl ?_
        unfold rsZ at hP
        first
          | (rw [if_pos (by omega)] at hP; exact hP)
          | (rw [if_neg (by omega), if_pos (by omega)] at hP; exact hP)
          | (rw [if_neg (by omega), if_neg (by omega), if_pos (by omega)] at hP; exact hP)
          | (rw [if_neg (by omega), if_neg (by omega), if_neg (by omega)] at hP; exact hP)
      · have q : 0 ≤ f + 2 * i + c := by
          rcases Int.lt_trichotomy 0 (f + 2 * i + c) with z | z | z
          · omega
          · omega
          · rw [if_neg (by omega), if_neg (by omega)] at h109; omega
        refine w_lload ta_189 rfl rfl ?_
        refine w_aload_n ta_189 rfl rfl ?_
        refine w_getR ta_189 rfl rfl ?_
        refine w_iload_n ta_189 rfl rfl ?_
        refine w_iaload ta_189 rfl rfl (by omega) (by omega) (by omega) ?_
        refine w_i2l ta_189 rfl ⟨by omega, by omega⟩ ?_
        refine w_lcmp ta_189 rfl ⟨by omega, by omega⟩ ⟨by omega, by omega⟩ ?_
        refine w_if_lt ta_189 rfl (by split <;> (try split) <;> decide) (fun h122 => ?_) (fun h122 => ?_)
        · have q2 : f + 2 * i + c < N 96 x := by
            rcases Int.lt_trichotomy (N 96 x) (f + 2 * i + c) with z | z | z
            · rw [if_pos z] at h122; omega
            · rw [if_neg (by omega), if_pos z.symm] at h122; omega
            · exact z
          refine w_iconst ta_189 rfl ?_
          refine w_ist_5_11 ta_189 rfl rfl ?_
          refine w_iinc_8_11 ta_189 rfl rfl ?_
          refine w_goto ta_189 rfl ?_
          unfold rsZ at hP
          first
            | (rw [if_pos (by omega)] at hP; exact hP)
            | (rw [if_neg (by omega), if_pos (by omega)] at hP; exact hP)
            | (rw [if_neg (by omega), if_neg (by omega), if_pos (by omega)] at hP; exact hP)
            | (rw [if_neg (by omega), if_neg (by omega), if_neg (by omega)] at hP; exact hP)
        · have q2 : N 96 x ≤ f + 2 * i + c := by
            rcases Int.lt_trichotomy (N 96 x) (f + 2 * i + c) with z | z | z
            · omega
            · omega
            · rw [if_neg (by omega), if_neg (by omega)] at h122; omega
          refine w_iconst ta_189 rfl ?_
          refine w_goto ta_189 rfl ?_
          refine w_ist_5_11 ta_189 rfl rfl ?_
          refine w_iinc_8_11 ta_189 rfl rfl ?_
          refine w_goto ta_189 rfl ?_
          unfold rsZ at hP
          first
            | (rw [if_pos (by omega)] at hP; exact hP)
            | (rw [if_neg (by omega), if_pos (by omega)] at hP; exact hP)
            | (rw [if_neg (by omega), if_neg (by omega), if_pos (by omega)] at hP; exact hP)
            | (rw [if_neg (by omega), if_neg (by omega), if_neg (by omega)] at hP; exact hP)
    · refine w_iconst ta_189 rfl ?_
      refine w_goto ta_189 rfl ?_
      refine w_ist_5_11 ta_189 rfl rfl ?_
      refine w_iinc_8_11 ta_189 rfl rfl ?_
      refine w_goto ta_189 rfl ?_
      unfold rsZ at hP
      first
        | (rw [if_pos (by omega)] at hP; exact hP)
        | (rw [if_neg (by omega), if_pos (by omega)] at hP; exact hP)
        | (rw [if_neg (by omega), if_neg (by omega), if_pos (by omega)] at hP; exact hP)
        | (rw [if_neg (by omega), if_neg (by omega), if_neg (by omega)] at hP; exact hP)
  · refine w_iconst ta_189 rfl ?_
    refine w_goto ta_189 rfl ?_
    refine w_ist_5_11 ta_189 rfl rfl ?_
    refine w_iinc_8_11 ta_189 rfl rfl ?_
    refine w_goto ta_189 rfl ?_
    unfold rsZ at hP
    first
      | (rw [if_pos (by omega)] at hP; exact hP)
      | (rw [if_neg (by omega), if_pos (by omega)] at hP; exact hP)
      | (rw [if_neg (by omega), if_neg (by omega), if_pos (by omega)] at hP; exact hP)
      | (rw [if_neg (by omega), if_neg (by omega), if_neg (by omega)] at hP; exact hP)
set_option maxHeartbeats 4000000 in
set_option maxRecDepth 20000 in
theorem lm_read_e (D : Nat) (N : Mem) (x l f n r w i : Int) (a b c : Option AV) (hr : r ≠ 0) (hr2 : inR r) (hi : inR i) (hn : inR n) (P : Option AV → Mem → Prop) (hP : P (some (.inl w)) (wr N 80 25 r)) : Wp (D + 3) 189 (36, [some (.inr (.inr 80)), some (.inl x), some (.inl l), some (.inl f), some (.inl n), some (.inl r), some (.inl w), some (.inl i), a, b, c], [], N) P := by
  obtain ⟨r0, r1⟩ := id hr2
  obtain ⟨i0, i1⟩ := id hi
  obtain ⟨m0, m1⟩ := id hn
  refine w_iload ta_189 rfl rfl ?_
  refine w_iload ta_189 rfl rfl ?_
  refine w_icmp_ge ta_189 rfl ⟨by omega, by omega⟩ ⟨by omega, by omega⟩ (fun h40 => ?_) (fun h40 => ?_)
  · refine w_aload_n ta_189 rfl rfl ?_
    refine w_iload ta_189 rfl rfl ?_
    refine w_putI 25 ta_189 rfl rfl rfl ?_
    refine w_iload ta_189 rfl rfl ?_
    refine w_iret ta_189 rfl (Or.inl rfl) ?_
    exact hP
  · refine w_iload ta_189 rfl rfl ?_
    refine w_if_ne ta_189 rfl ⟨by omega, by omega⟩ (fun h45 => ?_) (fun h45 => ?_)
    · refine w_aload_n ta_189 rfl rfl ?_
      refine w_iload ta_189 rfl rfl ?_
      refine w_putI 25 ta_189 rfl rfl rfl ?_
      refine w_iload ta_189 rfl rfl ?_
      refine w_iret ta_189 rfl (Or.inl rfl) ?_
      exact hP
    · exfalso; omega
set_option maxHeartbeats 4000000 in
set_option maxRecDepth 20000 in
theorem lm_read (D : Nat) (M : Mem) (hI : MdI M) (hL : ∀ j, 0 ≤ j → j < 4 → -4 ≤ M 95 j ∧ M 95 j ≤ 2 ∧ M 95 j ≠ -1 ∧ 0 ≤ M 96 j ∧ M 96 j ≤ 40) (hr : ∀ j, 0 ≤ j → j < 160 → inR (M 97 j)) (x l f n : Int) (x0 : 0 ≤ x) (x1 : x < 4) (h0 : 0 ≤ l) (h1 : l < 3) (hf : inR f) (h2 : 0 ≤ n) (h3 : n ≤ 20) : ∀ i : Int, 0 ≤ i → i ≤ n → ∀ (N : Mem) (a b c : Option AV), MdI N → (∀ c, c ≠ 81 → c ≠ 84 → N c = M c) → (∀ z, 0 ≤ z → z < 53 → N 84 z = M 81 z) → (∀ z, z < 37 → N 81 z = M 81 z) → (∀ y, 0 ≤ y → N 81 (37 + y) = rdF (fun j => M 97 (40 * x + j)) f (mG M) i.toNat y) → (∀ j, 0 ≤ j → j < i → rdO (fun j => M 97 (40 * x + j)) f (M 81 0) (M 81 1) j) → (i = 0 ∨ (M 95 x = l ∧ 0 ≤ f ∧ f + 2 * i ≤ M 96 x)) → Wp (D + 3) 189 (36, [some (.inr (.inr 80)), some (.inl x), some (.inl l), some (.inl f), some (.inl n), some (.inl 0), some (.inl i), some (.inl i), a, b, c], [], N) (fun r M' => ∃ v, r = some (.inl v) ∧ ((∃ i, 0 ≤ i ∧ i < (whZ l (mLn (M 95 x)) (M 96 x) f n) ∧ ¬ rdO (fun j => M 97 (40 * x + j)) f (M 81 0) (M 81 1) i ∧ (∀ j, 0 ≤ j → j < i → rdO (fun j => M 97 (40 * x + j)) f (M 81 0) (M 81 1) j) ∧ v = -20 - i ∧ (∀ c, c ≠ 81 → c ≠ 84 → M' c = M c) ∧ ∀ z, 0 ≤ z → z < 53 → M' 81 z = M 81 z) ∨ ((∀ j, 0 ≤ j → j < (whZ l (mLn (M 95 x)) (M 96 x) f n) → rdO (fun j => M 97 (40 * x + j)) f (M 81 0) (M 81 1) j) ∧ v = (whZ l (mLn (M 95 x)) (M 96 x) f n) ∧ (∀ c, c ≠ 80 → c ≠ 81 → c ≠ 84 → M' c = M c) ∧ M' 80 = upI (M 80) 25 (if (whZ l (mLn (M 95 x)) (M 96 x) f n) = n then 0 else faZ l (mLn (M 95 x))) ∧ (∀ z, z < 37 → M' 81 z = M 81 z) ∧ ∀ y, 0 ≤ y → M' 81 (37 + y) = rdF (fun j => M 97 (40 * x + j)) f (mG M) (whZ l (mLn (M 95 x)) (M 96 x) f n).toNat y))) := by
  obtain ⟨n0, n1, k0, k1, f0, f1, r0, r1, s0, s1, hA⟩ := id hI
  obtain ⟨q0, q1⟩ := id hf
  have hq := hL x x0 x1
  refine loopZ n ?_
  intro i i0 i1 ih N a b c hN hF hK hZ hG hO hC
  have eL : N 95 = M 95 := hF 95 (by decide) (by decide)
  have eZ : N 96 = M 96 := hF 96 (by decide) (by decide)
  refine w_iload ta_189 rfl rfl ?_
  refine w_iload ta_189 rfl rfl ?_
  refine w_icmp_ge ta_189 rfl ⟨by omega, by omega⟩ ⟨by omega, by omega⟩ (fun h40 => ?_) (fun h40 => ?_)
  · refine w_aload_n ta_189 rfl rfl ?_
    refine w_iload ta_189 rfl rfl ?_
    refine w_putI 25 ta_189 rfl rfl rfl ?_
    refine w_iload ta_189 rfl rfl ?_
    refine w_iret ta_189 rfl (Or.inl rfl) ?_
    have e : i = n := by omega
    have ew : (whZ l (mLn (M 95 x)) (M 96 x) f n) = n := wh_all h0 hq.2.2.1 i0 e hC
    refine ⟨_, rfl, Or.inr ⟨fun j j0 j1 => hO j j0 (by omega), by omega, fun c c1 c2 c3 => (wr_n _ _ _ c1).trans (hF c c2 c3), ?_, fun z hz => (congrFun (wr_n _ _ _ (by decide)) z).trans (hZ z hz), fun y y0 => (congrFun (wr_n _ _ _ (by decide)) (37 + y)).trans ((hG y y0).trans (by rw [ew, e]))⟩⟩
    rw [if_pos ew, wr_s, hF 80 (by decide) (by decide)]
  · refine w_iload ta_189 rfl rfl ?_
    refine w_if_ne ta_189 rfl ⟨by omega, by omega⟩ (fun h45 => ?_) (fun h45 => ?_)
    · exfalso; omega
    · refine w_iconst ta_189 rfl ?_
      refine w_ist_8_11 ta_189 rfl rfl ?_
      refine w_iload ta_189 rfl rfl ?_
      refine w_iconst ta_189 rfl ?_
      refine w_icmp_ge ta_189 rfl ⟨by omega, by omega⟩ ⟨by omega, by omega⟩ (fun h54 => ?_) (fun h54 => ?_)
      · exfalso; omega
      · refine w_iload ta_189 rfl rfl ?_
        refine w_if_ne ta_189 rfl ⟨by omega, by omega⟩ (fun h59 => ?_) (fun h59 => ?_)
        · exfalso; omega
        · skip
          refine lm_read_c D N x l f n i i 0 _ _ x0 x1 (by constructor <;> omega) (by rw [eL, eZ]; omega) hf i0 (by omega) (by omega) (by omega) _ ?_
          rw [eL, eZ]
          have d0 := rsZ_b (M 95 x) l (M 96 x) (f + 2 * i + 0)
          have d1 := rsZ_b (M 95 x) l (M 96 x) (f + 2 * i + (0 + 1))
          by_cases e0 : rsZ (M 95 x) l (M 96 x) (f + 2 * i + 0) = 0
          · rw [e0]
            refine w_iload ta_189 rfl rfl ?_
            refine w_iconst ta_189 rfl ?_
            refine w_icmp_ge ta_189 rfl ⟨by omega, by omega⟩ ⟨by omega, by omega⟩ (fun h54 => ?_) (fun h54 => ?_)
            · exfalso; omega
            · refine w_iload ta_189 rfl rfl ?_
              refine w_if_ne ta_189 rfl ⟨by omega, by omega⟩ (fun h59 => ?_) (fun h59 => ?_)
              · exfalso; omega
              · skip
                refine lm_read_c D N x l f n i i (0 + 1) _ _ x0 x1 (by constructor <;> omega) (by rw [eL, eZ]; omega) hf i0 (by omega) (by omega) (by omega) _ ?_
                rw [eL, eZ]
                by_cases e1 : rsZ (M 95 x) l (M 96 x) (f + 2 * i + (0 + 1)) = 0
                · rw [e1]
                  refine w_iload ta_189 rfl rfl ?_
                  refine w_iconst ta_189 rfl ?_
                  refine w_icmp_ge ta_189 rfl ⟨by omega, by omega⟩ ⟨by omega, by omega⟩ (fun h54 => ?_) (fun h54 => ?_)
                  · refine w_iload ta_189 rfl rfl ?_
                    refine w_if_ne ta_189 rfl ⟨by omega, by omega⟩ (fun h140 => ?_) (fun h140 => ?_)
                    · exfalso; omega
                    · have cc : M 95 x = l ∧ 0 ≤ f + 2 * i ∧ f + 2 * i + 1 < M 96 x := by
                        have z0 := (rsZ_0 h0).mp e0
                        have z1 := (rsZ_0 h0).mp e1
                        omega
                      have wi : i < (whZ l (mLn (M 95 x)) (M 96 x) f n) := wh_more h0 hq.2.2.1 i0 h40 (by omega) cc
                      have g1 := hr (40 * x + f + 2 * i) (by omega) (by omega)
                      have g2 := hr (40 * x + f + 2 * i + 1) (by omega) (by omega)
                      have a1 : M 97 (40 * x + f + 2 * i) = (fun j => M 97 (40 * x + j)) (f + 2 * i) := by show _ = M 97 (40 * x + (f + 2 * i)); rw [Int.add_assoc (40 * x)]
                      have a2 : M 97 (40 * x + f + 2 * i + 1) = (fun j => M 97 (40 * x + j)) (f + 2 * i + 1) := by show _ = M 97 (40 * x + (f + 2 * i + 1)); congr 1; omega
                      refine w_bipush ta_189 rfl ?_
                      refine w_iload_n ta_189 rfl rfl ?_
                      refine w_imul ta_189 rfl ?_
                      refine w_iload_n ta_189 rfl rfl ?_
                      refine w_iadd ta_189 rfl ?_
                      refine w_iconst ta_189 rfl ?_
                      refine w_iload ta_189 rfl rfl ?_
                      refine w_imul ta_189 rfl ?_
                      refine w_iadd ta_189 rfl ?_
                      refine w_ist_8_11 ta_189 rfl rfl ?_
                      refine w_aload_n ta_189 rfl rfl ?_
                      refine w_aload_n ta_189 rfl rfl ?_
                      refine w_getR ta_189 rfl rfl ?_
                      refine w_iload ta_189 rfl rfl ?_
                      refine w_ialoadv (v := M 97 (40 * x + f + 2 * i)) ta_189 rfl rfl (by omega) (by omega) (by omega) (by rw [hF 97 (by decide) (by decide)]) ?_
                      refine w_aload_n ta_189 rfl rfl ?_
                      refine w_getR ta_189 rfl rfl ?_
                      refine w_iload ta_189 rfl rfl ?_
                      refine w_iconst ta_189 rfl ?_
                      refine w_iadd ta_189 rfl ?_
                      refine w_ialoadv (v := M 97 (40 * x + f + 2 * i + 1)) ta_189 rfl rfl (by omega) (by omega) (by omega) (by rw [hF 97 (by decide) (by decide)]) ?_
                      refine w_cI [_, _, _] _ ta_189 rfl rfl rfl mt_166 rfl rfl rfl rfl (Nat.le_of_ble_eq_true rfl) (fun _ => rfl) rfl (cm_move _ N hN _ _ g1 g2) ?_
                      rintro v N2 hmv
                      have vb : inR v := by
                        rcases hmv with ⟨_, hv, _⟩ | ⟨hb, hv, _⟩
                        · rw [hv]; decide
                        · have := hN.2.2.2.2.2.2.2.2.2.2 _ hb.1.1 hb.1.2; have := hN.2.2.2.1; constructor <;> omega
                      obtain ⟨vb0, vb1⟩ := vb
                      have zN0 := hZ 0 (by omega)
                      have zN1 := hZ 1 (by omega)
                      rw [a1, a2] at hmv
                      refine w_if_ge ta_189 rfl ⟨by omega, by omega⟩ (fun h176 => ?_) (fun h176 => ?_)
                      · have hm := hmv.resolve_left (fun z => by omega)
                        obtain ⟨hb, hv, rfl⟩ := hm
                        refine w_iinc_6_11 ta_189 rfl rfl ?_
                        refine w_iinc_7_11 ta_189 rfl rfl ?_
                        refine w_goto ta_189 rfl ?_
                        refine ih (by omega) _ _ _ _ (mv_I hN hb.1.1 hb.1.2 hb.2.1 hb.2.2) (fun c c1 c2 => (wr_n _ _ _ c1).trans (hF c c1 c2)) (fun z z0 z1 => (congrFun (wr_n _ _ _ (by decide)) z).trans (hK z z0 z1)) (fun z hz => ?_) (fun y y0 => ?_) (fun j j0 j1 => ?_) (Or.inr ⟨cc.1, by omega, by omega⟩)
                        · rw [wr_s, up_n _ _ (by have := hb.1.1; omega)]; exact hZ z hz
                        · rw [wr_s, show (i + 1).toNat = i.toNat + 1 by omega, rdF, show ((i.toNat : Nat) : Int) = i by omega]
                          unfold upI
                          by_cases e : y = (fun j => M 97 (40 * x + j)) (f + 2 * i)
                          · rw [if_pos (by omega), if_pos e]
                          · rw [if_neg (by omega), if_neg e]; exact hG y y0
                        · by_cases e : j = i
                          · rw [e]; rw [zN0, zN1] at hb; exact hb
                          · exact hO j j0 (by omega)
                      · have hm := hmv.resolve_right (fun z => by have := hN.2.2.2.2.2.2.2.2.2.2 _ z.1.1.1 z.1.1.2; omega)
                        obtain ⟨hb, hv, rfl⟩ := hm
                        refine w_aload_n ta_189 rfl rfl ?_
                        refine w_cV [_] _ ta_189 rfl rfl rfl mt_183 rfl rfl rfl rfl (Nat.le_of_ble_eq_true rfl) (fun _ => rfl) rfl (cm_backBefore _ _) ?_
                        rintro N3 hN3
                        refine w_bipush ta_189 rfl ?_
                        refine w_iload ta_189 rfl rfl ?_
                        refine w_isub ta_189 rfl ?_
                        refine w_iret ta_189 rfl (Or.inl rfl) ?_
                        refine ⟨_, rfl, Or.inl ⟨i, i0, wi, (by rw [zN0, zN1] at hb; exact hb), hO, by omega, fun c c1 c2 => ?_, fun z z0 z1 => ?_⟩⟩
                        · rw [hN3, sc_n _ _ c1]; exact hF c c1 c2
                        · rw [hN3, sc_s, cpF_at z0 z1]; exact hK z z0 z1
                  · exfalso; omega
                · refine w_iload ta_189 rfl rfl ?_
                  refine w_iconst ta_189 rfl ?_
                  refine w_icmp_ge ta_189 rfl ⟨by omega, by omega⟩ ⟨by omega, by omega⟩ (fun h54 => ?_) (fun h54 => ?_)
                  · refine w_iload ta_189 rfl rfl ?_
                    refine w_if_ne ta_189 rfl ⟨by omega, by omega⟩ (fun h140 => ?_) (fun h140 => ?_)
                    · refine w_iinc_7_11 ta_189 rfl rfl ?_
                      refine w_goto ta_189 rfl ?_
                      refine lm_read_e D _ x l f n _ i (i + 1) _ _ _ e1 (by have := d1; constructor <;> omega) (by constructor <;> omega) (by constructor <;> omega) _ ?_
                      have ew : (whZ l (mLn (M 95 x)) (M 96 x) f n) = i := wh_end h0 hq.2.2.1 i0 h40 hC (by intro z; exact e1 ((rsZ_0 h0).mpr (by omega)))
                      have ef : rsZ (M 95 x) l (M 96 x) (f + 2 * i + (0 + 1)) = faZ l (mLn (M 95 x)) := rsZ_fa h0 hq.2.2.1 e1
                      refine ⟨_, rfl, Or.inr ⟨fun j j0 j1 => hO j j0 (by omega), by omega, fun c c1 c2 c3 => (wr_n _ _ _ c1).trans (hF c c2 c3), ?_, fun z hz => (congrFun (wr_n _ _ _ (by decide)) z).trans (hZ z hz), fun y y0 => (congrFun (wr_n _ _ _ (by decide)) (37 + y)).trans ((hG y y0).trans (by rw [ew]))⟩⟩
                      rw [if_neg (by omega), wr_s, hF 80 (by decide) (by decide), ← ef]
                    · exfalso; omega
                  · exfalso; omega
          · refine w_iload ta_189 rfl rfl ?_
            refine w_iconst ta_189 rfl ?_
            refine w_icmp_ge ta_189 rfl ⟨by omega, by omega⟩ ⟨by omega, by omega⟩ (fun h54 => ?_) (fun h54 => ?_)
            · exfalso; omega
            · refine w_iload ta_189 rfl rfl ?_
              refine w_if_ne ta_189 rfl ⟨by omega, by omega⟩ (fun h59 => ?_) (fun h59 => ?_)
              · refine w_iload ta_189 rfl rfl ?_
                refine w_if_ne ta_189 rfl ⟨by omega, by omega⟩ (fun h140 => ?_) (fun h140 => ?_)
                · refine w_iinc_7_11 ta_189 rfl rfl ?_
                  refine w_goto ta_189 rfl ?_
                  refine lm_read_e D _ x l f n _ i (i + 1) _ _ _ e0 (by have := d0; constructor <;> omega) (by constructor <;> omega) (by constructor <;> omega) _ ?_
                  have ew : (whZ l (mLn (M 95 x)) (M 96 x) f n) = i := wh_end h0 hq.2.2.1 i0 h40 hC (by intro z; exact e0 ((rsZ_0 h0).mpr (by omega)))
                  have ef : rsZ (M 95 x) l (M 96 x) (f + 2 * i + 0) = faZ l (mLn (M 95 x)) := rsZ_fa h0 hq.2.2.1 e0
                  refine ⟨_, rfl, Or.inr ⟨fun j j0 j1 => hO j j0 (by omega), by omega, fun c c1 c2 c3 => (wr_n _ _ _ c1).trans (hF c c2 c3), ?_, fun z hz => (congrFun (wr_n _ _ _ (by decide)) z).trans (hZ z hz), fun y y0 => (congrFun (wr_n _ _ _ (by decide)) (37 + y)).trans ((hG y y0).trans (by rw [ew]))⟩⟩
                  rw [if_neg (by omega), wr_s, hF 80 (by decide) (by decide), ← ef]
                · exfalso; omega
              · exfalso; omega
set_option maxHeartbeats 4000000 in
set_option maxRecDepth 20000 in
theorem cm_read (D : Nat) (M : Mem) (hI : MdI M) (hL : ∀ j, 0 ≤ j → j < 4 → -4 ≤ M 95 j ∧ M 95 j ≤ 2 ∧ M 95 j ≠ -1 ∧ 0 ≤ M 96 j ∧ M 96 j ≤ 40) (hr : ∀ j, 0 ≤ j → j < 160 → inR (M 97 j)) (x l f n : Int) (hx : inR x) (hl : inR l) (hf : inR f) (hn : inR n) : Cl (D + 3) 189 [.inr (.inr 80), .inl x, .inl l, .inl f, .inl n] M (fun r M' => (¬ ((0 ≤ x ∧ x < 4) ∧ (0 ≤ l ∧ l < 3) ∧ 0 ≤ n ∧ n ≤ 20) ∧ r = some (.inl (-1)) ∧ M' = M) ∨ (((0 ≤ x ∧ x < 4) ∧ (0 ≤ l ∧ l < 3) ∧ 0 ≤ n ∧ n ≤ 20) ∧ (fun r M' => ∃ v, r = some (.inl v) ∧ ((∃ i, 0 ≤ i ∧ i < (whZ l (mLn (M 95 x)) (M 96 x) f n) ∧ ¬ rdO (fun j => M 97 (40 * x + j)) f (M 81 0) (M 81 1) i ∧ (∀ j, 0 ≤ j → j < i → rdO (fun j => M 97 (40 * x + j)) f (M 81 0) (M 81 1) j) ∧ v = -20 - i ∧ (∀ c, c ≠ 81 → c ≠ 84 → M' c = M c) ∧ ∀ z, 0 ≤ z → z < 53 → M' 81 z = M 81 z) ∨ ((∀ j, 0 ≤ j → j < (whZ l (mLn (M 95 x)) (M 96 x) f n) → rdO (fun j => M 97 (40 * x + j)) f (M 81 0) (M 81 1) j) ∧ v = (whZ l (mLn (M 95 x)) (M 96 x) f n) ∧ (∀ c, c ≠ 80 → c ≠ 81 → c ≠ 84 → M' c = M c) ∧ M' 80 = upI (M 80) 25 (if (whZ l (mLn (M 95 x)) (M 96 x) f n) = n then 0 else faZ l (mLn (M 95 x))) ∧ (∀ z, z < 37 → M' 81 z = M 81 z) ∧ ∀ y, 0 ≤ y → M' 81 (37 + y) = rdF (fun j => M 97 (40 * x + j)) f (mG M) (whZ l (mLn (M 95 x)) (M 96 x) f n).toNat y))) r M')) := by
  refine mk_C mt_189 rfl (Nat.le_of_ble_eq_true rfl) (L := [some _, some _, some _, some _, some _, none, none, none, none, none, none]) rfl ?_
  obtain ⟨n0, n1, k0, k1, f0, f1, r0, r1, s0, s1, hA⟩ := id hI
  obtain ⟨x0, x1⟩ := id hx
  obtain ⟨l0, l1⟩ := id hl
  obtain ⟨m0, m1⟩ := id hn
  refine w_iload_n ta_189 rfl rfl ?_
  refine w_iload_n ta_189 rfl rfl ?_
  refine w_cI [_, _] _ ta_189 rfl rfl rfl mt_186 rfl rfl rfl rfl (Nat.le_of_ble_eq_true rfl) (fun q => by cases q) rfl (cm_isSheet _ M x l hx hl) ?_
  rintro v M2 ⟨hv, rfl⟩
  refine w_if_eq ta_189 rfl ⟨by omega, by omega⟩ (fun h5 => ?_) (fun h5 => ?_)
  · refine w_iconst ta_189 rfl ?_
    refine w_iret ta_189 rfl (Or.inl rfl) ?_
    exact Or.inl ⟨by omega, rfl, rfl⟩
  · refine w_iload ta_189 rfl rfl ?_
    refine w_i2l ta_189 rfl ⟨by omega, by omega⟩ ?_
    refine w_lconst ta_189 rfl ?_
    refine w_ldc2_w ta_189 rfl ?_
    refine w_cI [_, _, _] _ ta_189 rfl rfl rfl mt_106 rfl rfl rfl rfl (Nat.le_of_ble_eq_true rfl) (fun q => by cases q) rfl (cm_in _ n 0 20 M2 (by constructor <;> omega) (by constructor <;> omega) (by constructor <;> omega)) ?_
    rintro v2 M3 ⟨hv2, rfl⟩
    refine w_if_ne ta_189 rfl ⟨by omega, by omega⟩ (fun h18 => ?_) (fun h18 => ?_)
    · refine w_aload_n ta_189 rfl rfl ?_
      refine w_cV [_] _ ta_189 rfl rfl rfl mt_182 rfl rfl rfl rfl (Nat.le_of_ble_eq_true rfl) (fun _ => rfl) rfl (cm_keepBefore _ M3) ?_
      rintro M4 hM4
      refine w_iconst ta_189 rfl ?_
      refine w_ist_5_11 ta_189 rfl rfl ?_
      refine w_iconst ta_189 rfl ?_
      refine w_ist_6_11 ta_189 rfl rfl ?_
      refine w_iconst ta_189 rfl ?_
      refine w_ist_7_11 ta_189 rfl rfl ?_
      have hc : (0 ≤ x ∧ x < 4) ∧ (0 ≤ l ∧ l < 3) ∧ 0 ≤ n ∧ n ≤ 20 := by omega
      refine (lm_read D M3 hI hL hr x l f n (by omega) (by omega) (by omega) (by omega) hf (by omega) (by omega) 0 (by omega) (by omega) M4 none none none (hI.of (by rw [hM4, sc_n _ _ (by decide)])) (fun c c1 c2 => by rw [hM4, sc_n _ _ c2]) (fun z z0 z1 => by rw [hM4, sc_s, cpF_at z0 z1]) (fun z hz => by rw [hM4, sc_n _ _ (by decide)]) (fun y y0 => by rw [hM4, sc_n _ _ (by decide)]; rfl) (fun j j0 j1 => by omega) (Or.inl rfl)).imp ?_
      exact fun r M5 hq => Or.inr ⟨hc, hq⟩
    · refine w_iconst ta_189 rfl ?_
      refine w_iret ta_189 rfl (Or.inl rfl) ?_
      exact Or.inl ⟨by omega, rfl, rfl⟩
set_option maxHeartbeats 4000000 in
set_option maxRecDepth 20000 in
theorem lm_emptyGroups (D : Nat) (M : Mem) (hI : MdI M) : ∀ i : Int, 0 ≤ i → i ≤ M 81 1 → Wp (D + 1) 191 (4, [some (.inr (.inr 80)), some (.inl (sumZ (fun g => if ctZ (mG M) (M 81 0) g = 0 then 1 else 0) i)), some (.inl i)], [], M) (fun r M' => ∃ v, r = some (.inl v) ∧ (v = egZ (mG M) (M 81 0) (M 81 1) ∧ M' = M)) := by
  obtain ⟨n0, n1, k0, k1, f0, f1, r0, r1, s0, s1, hA⟩ := id hI
  refine loopZ (M 81 1) ?_
  intro i h0 h1 ih
  refine w_iload_n ta_191 rfl rfl ?_
  refine w_aload_n ta_191 rfl rfl ?_
  refine w_getR ta_191 rfl rfl ?_
  refine w_iconst ta_191 rfl ?_
  refine w_iaload ta_191 rfl rfl (by decide) (by decide) (by omega) ?_
  refine w_icmp_ge ta_191 rfl ⟨by omega, by omega⟩ ⟨by omega, by omega⟩ (fun h11 => ?_) (fun h11 => ?_)
  · refine w_iload_n ta_191 rfl rfl ?_
    refine w_iret ta_191 rfl (Or.inl rfl) ?_
    exact ⟨_, rfl, by rw [show i = M 81 1 by omega]; rfl, rfl⟩
  · have ih := ih h11
    rw [sumZ_s _ h0] at ih
    refine w_iload_n ta_191 rfl rfl ?_
    refine w_aload_n ta_191 rfl rfl ?_
    refine w_iload_n ta_191 rfl rfl ?_
    refine w_iconst ta_191 rfl ?_
    refine w_cI [_, _, _] _ ta_191 rfl rfl rfl mt_138 rfl rfl rfl rfl (Nat.le_of_ble_eq_true rfl) (fun _ => rfl) rfl (cm_cellsOf_0 _ M hI i (by constructor <;> omega)) ?_
    rintro v M2 ⟨hv, rfl⟩
    have vb : 0 ≤ ctZ (mG M2) (M2 81 0) i ∧ ctZ (mG M2) (M2 81 0) i ≤ 16 * 1 := sumZ_b 1 n1 (by omega) (fun j _ _ => by split <;> omega)
    refine w_if_ne ta_191 rfl ⟨by omega, by omega⟩ (fun h21 => ?_) (fun h21 => ?_)
    · refine w_iconst ta_191 rfl ?_
      refine w_cI [_] _ ta_191 rfl rfl rfl mt_107 rfl rfl rfl rfl (Nat.le_of_ble_eq_true rfl) (fun q => by cases q) rfl (cm_flag _ _ M2 (by omega)) ?_
      rintro w M3 ⟨hw, rfl⟩
      refine w_iadd ta_191 rfl ?_
      refine w_istn_1_3 ta_191 rfl rfl ?_
      refine w_iinc_2_3 ta_191 rfl rfl ?_
      refine w_goto ta_191 rfl ?_
      first
        | (rw [if_pos (by omega)] at ih; subst hw; exact ih)
        | (rw [if_neg (by omega)] at ih; subst hw; exact ih)
    · refine w_iconst ta_191 rfl ?_
      refine w_goto ta_191 rfl ?_
      refine w_cI [_] _ ta_191 rfl rfl rfl mt_107 rfl rfl rfl rfl (Nat.le_of_ble_eq_true rfl) (fun q => by cases q) rfl (cm_flag _ _ M2 (by omega)) ?_
      rintro w M3 ⟨hw, rfl⟩
      refine w_iadd ta_191 rfl ?_
      refine w_istn_1_3 ta_191 rfl rfl ?_
      refine w_iinc_2_3 ta_191 rfl rfl ?_
      refine w_goto ta_191 rfl ?_
      first
        | (rw [if_pos (by omega)] at ih; subst hw; exact ih)
        | (rw [if_neg (by omega)] at ih; subst hw; exact ih)
set_option maxHeartbeats 4000000 in
set_option maxRecDepth 20000 in
theorem cm_emptyGroups (D : Nat) (M : Mem) (hI : MdI M) : CI (D + 1) 191 [.inr (.inr 80)] M (fun v M' => v = egZ (mG M) (M 81 0) (M 81 1) ∧ M' = M) := by
  refine mk_C mt_191 rfl (Nat.le_of_ble_eq_true rfl) (L := [some _, none, none]) rfl ?_
  obtain ⟨n0, n1, k0, k1, f0, f1, r0, r1, s0, s1, hA⟩ := id hI
  refine w_iconst ta_191 rfl ?_
  refine w_istn_1_3 ta_191 rfl rfl ?_
  refine w_iconst ta_191 rfl ?_
  refine w_istn_2_3 ta_191 rfl rfl ?_
  exact lm_emptyGroups D M hI 0 (by omega) (by omega)
set_option maxHeartbeats 4000000 in
set_option maxRecDepth 20000 in
theorem lm_bledCells (D : Nat) (M : Mem) (hI : MdI M) : ∀ i : Int, 0 ≤ i → i ≤ M 81 0 → Wp (D + 1) 192 (4, [some (.inr (.inr 80)), some (.inl (sumZ (fun i => if mH M i < mC M i then 1 else 0) i)), some (.inl i)], [], M) (fun r M' => ∃ v, r = some (.inl v) ∧ (v = blZ (mH M) (mC M) (M 81 0) ∧ M' = M)) := by
  obtain ⟨n0, n1, k0, k1, f0, f1, r0, r1, s0, s1, hA⟩ := id hI
  refine loopZ (M 81 0) ?_
  intro i h0 h1 ih
  refine w_iload_n ta_192 rfl rfl ?_
  refine w_aload_n ta_192 rfl rfl ?_
  refine w_getR ta_192 rfl rfl ?_
  refine w_iconst ta_192 rfl ?_
  refine w_iaload ta_192 rfl rfl (by decide) (by decide) (by omega) ?_
  refine w_icmp_ge ta_192 rfl ⟨by omega, by omega⟩ ⟨by omega, by omega⟩ (fun h11 => ?_) (fun h11 => ?_)
  · refine w_iload_n ta_192 rfl rfl ?_
    refine w_iret ta_192 rfl (Or.inl rfl) ?_
    exact ⟨_, rfl, by rw [show i = M 81 0 by omega]; rfl, rfl⟩
  · have q := hA i h0 h11
    have ih := ih h11
    rw [sumZ_s _ h0] at ih
    replace ih : Wp (D + 1) _ (4, [some (.inr (.inr 80)), some (.inl (sumZ (fun i => if mH M i < mC M i then 1 else 0) i + (if M 81 (21 + i) < M 81 (5 + i) then 1 else 0))), some (.inl (i + 1))], [], M) _ := ih
    refine w_iload_n ta_192 rfl rfl ?_
    refine w_aload_n ta_192 rfl rfl ?_
    refine w_getR ta_192 rfl rfl ?_
    refine w_bipush ta_192 rfl ?_
    refine w_iload_n ta_192 rfl rfl ?_
    refine w_iadd ta_192 rfl ?_
    refine w_iaload ta_192 rfl rfl (by omega) (by omega) (by omega) ?_
    refine w_aload_n ta_192 rfl rfl ?_
    refine w_getR ta_192 rfl rfl ?_
    refine w_iconst ta_192 rfl ?_
    refine w_iload_n ta_192 rfl rfl ?_
    refine w_iadd ta_192 rfl ?_
    refine w_iaload ta_192 rfl rfl (by omega) (by omega) (by omega) ?_
    refine w_icmp_ge ta_192 rfl ⟨by omega, by omega⟩ ⟨by omega, by omega⟩ (fun h32 => ?_) (fun h32 => ?_)
    · refine w_iconst ta_192 rfl ?_
      refine w_cI [_] _ ta_192 rfl rfl rfl mt_107 rfl rfl rfl rfl (Nat.le_of_ble_eq_true rfl) (fun q => by cases q) rfl (cm_flag _ _ M (by omega)) ?_
      rintro w M3 ⟨hw, rfl⟩
      refine w_iadd ta_192 rfl ?_
      refine w_istn_1_3 ta_192 rfl rfl ?_
      refine w_iinc_2_3 ta_192 rfl rfl ?_
      refine w_goto ta_192 rfl ?_
      first
        | (rw [if_pos (by omega)] at ih; subst hw; exact ih)
        | (rw [if_neg (by omega)] at ih; subst hw; exact ih)
    · refine w_iconst ta_192 rfl ?_
      refine w_goto ta_192 rfl ?_
      refine w_cI [_] _ ta_192 rfl rfl rfl mt_107 rfl rfl rfl rfl (Nat.le_of_ble_eq_true rfl) (fun q => by cases q) rfl (cm_flag _ _ M (by omega)) ?_
      rintro w M3 ⟨hw, rfl⟩
      refine w_iadd ta_192 rfl ?_
      refine w_istn_1_3 ta_192 rfl rfl ?_
      refine w_iinc_2_3 ta_192 rfl rfl ?_
      refine w_goto ta_192 rfl ?_
      first
        | (rw [if_pos (by omega)] at ih; subst hw; exact ih)
        | (rw [if_neg (by omega)] at ih; subst hw; exact ih)
set_option maxHeartbeats 4000000 in
set_option maxRecDepth 20000 in
theorem cm_bledCells (D : Nat) (M : Mem) (hI : MdI M) : CI (D + 1) 192 [.inr (.inr 80)] M (fun v M' => v = blZ (mH M) (mC M) (M 81 0) ∧ M' = M) := by
  refine mk_C mt_192 rfl (Nat.le_of_ble_eq_true rfl) (L := [some _, none, none]) rfl ?_
  obtain ⟨n0, n1, k0, k1, f0, f1, r0, r1, s0, s1, hA⟩ := id hI
  refine w_iconst ta_192 rfl ?_
  refine w_istn_1_3 ta_192 rfl rfl ?_
  refine w_iconst ta_192 rfl ?_
  refine w_istn_2_3 ta_192 rfl rfl ?_
  exact lm_bledCells D M hI 0 (by omega) (by omega)
set_option maxHeartbeats 4000000 in
set_option maxRecDepth 20000 in
theorem lm_greatestCharge (D : Nat) (M : Mem) (hI : MdI M) : ∀ i : Int, 0 ≤ i → i ≤ M 81 0 → Wp D 193 (5, [some (.inr (.inr 80)), some (.inl (gcZ (mC M) i)), some (.inl i)], [], M) (fun r M' => ∃ v, r = some (.inl v) ∧ (v = gcZ (mC M) (M 81 0) ∧ M' = M)) := by
  obtain ⟨n0, n1, k0, k1, f0, f1, r0, r1, s0, s1, hA⟩ := id hI
  refine loopZ (M 81 0) ?_
  intro i h0 h1 ih
  refine w_iload_n ta_193 rfl rfl ?_
  refine w_aload_n ta_193 rfl rfl ?_
  refine w_getR ta_193 rfl rfl ?_
  refine w_iconst ta_193 rfl ?_
  refine w_iaload ta_193 rfl rfl (by decide) (by decide) (by omega) ?_
  refine w_icmp_ge ta_193 rfl ⟨by omega, by omega⟩ ⟨by omega, by omega⟩ (fun h12 => ?_) (fun h12 => ?_)
  · refine w_iload_n ta_193 rfl rfl ?_
    refine w_iret ta_193 rfl (Or.inl rfl) ?_
    exact ⟨_, rfl, by rw [show i = M 81 0 by omega], rfl⟩
  · have q := hA i h0 h12
    have gb := gcZ_b (ch := mC M) (n := i) (fun j j0 j1 => by have := hA j j0 (by omega); show M 81 (5 + j) ≤ 999; omega)
    have ih := ih h12
    rw [gcZ_s _ h0] at ih
    replace ih : Wp D _ (5, [some (.inr (.inr 80)), some (.inl (if gcZ (mC M) i < M 81 (5 + i) then M 81 (5 + i) else gcZ (mC M) i)), some (.inl (i + 1))], [], M) _ := ih
    refine w_aload_n ta_193 rfl rfl ?_
    refine w_getR ta_193 rfl rfl ?_
    refine w_iconst ta_193 rfl ?_
    refine w_iload_n ta_193 rfl rfl ?_
    refine w_iadd ta_193 rfl ?_
    refine w_iaload ta_193 rfl rfl (by omega) (by omega) (by omega) ?_
    refine w_iload_n ta_193 rfl rfl ?_
    refine w_icmp_le ta_193 rfl ⟨by omega, by omega⟩ ⟨by omega, by omega⟩ (fun h24 => ?_) (fun h24 => ?_)
    · refine w_iload_n ta_193 rfl rfl ?_
      refine w_istn_1_3 ta_193 rfl rfl ?_
      refine w_iinc_2_3 ta_193 rfl rfl ?_
      refine w_goto ta_193 rfl ?_
      first
        | (rw [if_pos (by omega)] at ih; exact ih)
        | (rw [if_neg (by omega)] at ih; exact ih)
    · refine w_aload_n ta_193 rfl rfl ?_
      refine w_getR ta_193 rfl rfl ?_
      refine w_iconst ta_193 rfl ?_
      refine w_iload_n ta_193 rfl rfl ?_
      refine w_iadd ta_193 rfl ?_
      refine w_iaload ta_193 rfl rfl (by omega) (by omega) (by omega) ?_
      refine w_goto ta_193 rfl ?_
      refine w_istn_1_3 ta_193 rfl rfl ?_
      refine w_iinc_2_3 ta_193 rfl rfl ?_
      refine w_goto ta_193 rfl ?_
      first
        | (rw [if_pos (by omega)] at ih; exact ih)
        | (rw [if_neg (by omega)] at ih; exact ih)
set_option maxHeartbeats 4000000 in
set_option maxRecDepth 20000 in
theorem cm_greatestCharge (D : Nat) (M : Mem) (hI : MdI M) : CI D 193 [.inr (.inr 80)] M (fun v M' => v = gcZ (mC M) (M 81 0) ∧ M' = M) := by
  refine mk_C mt_193 rfl (Nat.le_of_ble_eq_true rfl) (L := [some _, none, none]) rfl ?_
  obtain ⟨n0, n1, k0, k1, f0, f1, r0, r1, s0, s1, hA⟩ := id hI
  refine w_bipush ta_193 rfl ?_
  refine w_istn_1_3 ta_193 rfl rfl ?_
  refine w_iconst ta_193 rfl ?_
  refine w_istn_2_3 ta_193 rfl rfl ?_
  exact lm_greatestCharge D M hI 0 (by omega) (by omega)
set_option maxHeartbeats 4000000 in
set_option maxRecDepth 20000 in
theorem cm_count (D : Nat) (M : Mem) (hI : MdI M) (b : ∀ j, 0 ≤ j → j < 2 → M 83 j = 0 ∨ M 83 j = 1) (hL : ∀ j, 0 ≤ j → j < 4 → -4 ≤ M 95 j ∧ M 95 j ≤ 2 ∧ M 95 j ≠ -1 ∧ 0 ≤ M 96 j ∧ M 96 j ≤ 40) (x : Int) (hx : inR x) : CI (D + 2) 194 [.inr (.inr 80), .inl x] M (fun v M' => v = coZ x (sumZ (M 83) 2) (M 81 0) (M 81 1) (M 80 7) (mLn (M 95 0)) (M 96 0) (mC M) (mH M) (mG M) ∧ M' = M) := by
  refine mk_C mt_194 rfl (Nat.le_of_ble_eq_true rfl) (L := [some _, some _]) rfl ?_
  obtain ⟨n0, n1, k0, k1, f0, f1, r0, r1, s0, s1, hA⟩ := id hI
  obtain ⟨x0, x1⟩ := id hx
  refine w_iload_n ta_194 rfl rfl ?_
  rcases (show x = 0 ∨ x = 1 ∨ x = 2 ∨ x = 3 ∨ x = 4 ∨ x = 5 ∨ (x < 0 ∨ 5 < x) by omega) with h1 | h1 | h1 | h1 | h1 | h1 | h1
  · refine w_tsw 40 ta_194 rfl ⟨by omega, by omega⟩ (by rw [h1]; rfl) ?_
    refine w_aload_n ta_194 rfl rfl ?_
    refine w_getR ta_194 rfl rfl ?_
    refine w_iconst ta_194 rfl ?_
    refine w_baload ta_194 rfl rfl (by decide) (by decide) (by omega) ?_
    refine w_cI [_] _ ta_194 rfl rfl rfl mt_107 rfl rfl rfl rfl (Nat.le_of_ble_eq_true rfl) (fun q => by cases q) rfl (cm_flag _ (M 83 0) M (b 0 (by omega) (by omega))) ?_
    rintro w M2 ⟨hw, rfl⟩
    refine w_aload_n ta_194 rfl rfl ?_
    refine w_getR ta_194 rfl rfl ?_
    refine w_iconst ta_194 rfl ?_
    refine w_baload ta_194 rfl rfl (by decide) (by decide) (by omega) ?_
    refine w_cI [_] _ ta_194 rfl rfl rfl mt_107 rfl rfl rfl rfl (Nat.le_of_ble_eq_true rfl) (fun q => by cases q) rfl (cm_flag _ (M2 83 1) M2 (b 1 (by omega) (by omega))) ?_
    rintro w2 M3 ⟨hw2, rfl⟩
    refine w_iadd ta_194 rfl ?_
    refine w_iret ta_194 rfl (Or.inl rfl) ?_
    refine ⟨_, rfl, ?_, rfl⟩
    unfold coZ
    rw [if_pos (by omega)]
    show w + w2 = 0 + M3 83 0 + M3 83 1
    omega
  · refine w_tsw 60 ta_194 rfl ⟨by omega, by omega⟩ (by rw [h1]; rfl) ?_
    refine w_aload_n ta_194 rfl rfl ?_
    refine w_cI [_] _ ta_194 rfl rfl rfl mt_191 rfl rfl rfl rfl (Nat.le_of_ble_eq_true rfl) (fun _ => rfl) rfl (cm_emptyGroups _ M hI) ?_
    rintro w M2 ⟨hw, rfl⟩
    refine w_iret ta_194 rfl (Or.inl rfl) ?_
    refine ⟨_, rfl, ?_, rfl⟩
    unfold coZ
    rw [if_neg (by omega), if_pos (by omega)]; exact hw
  · refine w_tsw 65 ta_194 rfl ⟨by omega, by omega⟩ (by rw [h1]; rfl) ?_
    refine w_aload_n ta_194 rfl rfl ?_
    refine w_getI 7 ta_194 rfl rfl rfl ?_
    refine w_iret ta_194 rfl (Or.inl rfl) ?_
    refine ⟨_, rfl, ?_, rfl⟩
    unfold coZ
    rw [if_neg (by omega), if_neg (by omega), if_pos (by omega)]
  · refine w_tsw 70 ta_194 rfl ⟨by omega, by omega⟩ (by rw [h1]; rfl) ?_
    have hq := hL 0 (by omega) (by omega)
    refine w_aload_n ta_194 rfl rfl ?_
    refine w_getR ta_194 rfl rfl ?_
    refine w_iconst ta_194 rfl ?_
    refine w_iaload ta_194 rfl rfl (by decide) (by decide) (by omega) ?_
    refine w_bipush ta_194 rfl ?_
    refine w_icmp_ne ta_194 rfl ⟨by omega, by omega⟩ ⟨by omega, by omega⟩ (fun h78 => ?_) (fun h78 => ?_)
    · refine w_aload_n ta_194 rfl rfl ?_
      refine w_getR ta_194 rfl rfl ?_
      refine w_iconst ta_194 rfl ?_
      refine w_iaload ta_194 rfl rfl (by decide) (by decide) (by omega) ?_
      refine w_iret ta_194 rfl (Or.inl rfl) ?_
      refine ⟨_, rfl, ?_, rfl⟩
      unfold coZ
      rw [if_neg (by omega), if_neg (by omega), if_neg (by omega), if_pos (by omega)]
      first
        | rw [if_pos ((mLn_1 hq.2.2.1).mpr (by omega))]
        | rw [if_neg (fun z => absurd ((mLn_1 hq.2.2.1).mp z) (by omega))]
    · refine w_bipush ta_194 rfl ?_
      refine w_goto ta_194 rfl ?_
      refine w_iret ta_194 rfl (Or.inl rfl) ?_
      refine ⟨_, rfl, ?_, rfl⟩
      unfold coZ
      rw [if_neg (by omega), if_neg (by omega), if_neg (by omega), if_pos (by omega)]
      first
        | rw [if_pos ((mLn_1 hq.2.2.1).mpr (by omega))]
        | rw [if_neg (fun z => absurd ((mLn_1 hq.2.2.1).mp z) (by omega))]
  · refine w_tsw 93 ta_194 rfl ⟨by omega, by omega⟩ (by rw [h1]; rfl) ?_
    refine w_aload_n ta_194 rfl rfl ?_
    refine w_cI [_] _ ta_194 rfl rfl rfl mt_192 rfl rfl rfl rfl (Nat.le_of_ble_eq_true rfl) (fun _ => rfl) rfl (cm_bledCells _ M hI) ?_
    rintro w M2 ⟨hw, rfl⟩
    refine w_iret ta_194 rfl (Or.inl rfl) ?_
    refine ⟨_, rfl, ?_, rfl⟩
    unfold coZ
    rw [if_neg (by omega), if_neg (by omega), if_neg (by omega), if_neg (by omega), if_pos (by omega)]; exact hw
  · refine w_tsw 98 ta_194 rfl ⟨by omega, by omega⟩ (by rw [h1]; rfl) ?_
    refine w_aload_n ta_194 rfl rfl ?_
    refine w_cI [_] _ ta_194 rfl rfl rfl mt_193 rfl rfl rfl rfl (Nat.le_of_ble_eq_true rfl) (fun _ => rfl) rfl (cm_greatestCharge _ M hI) ?_
    rintro w M2 ⟨hw, rfl⟩
    refine w_iret ta_194 rfl (Or.inl rfl) ?_
    refine ⟨_, rfl, ?_, rfl⟩
    unfold coZ
    rw [if_neg (by omega), if_neg (by omega), if_neg (by omega), if_neg (by omega), if_neg (by omega), if_pos (by omega)]; exact hw
  · refine w_tsw 103 ta_194 rfl ⟨by omega, by omega⟩ (if_pos h1) ?_
    refine w_iconst ta_194 rfl ?_
    refine w_iret ta_194 rfl (Or.inl rfl) ?_
    refine ⟨_, rfl, ?_, rfl⟩
    unfold coZ
    rw [if_neg (by omega), if_neg (by omega), if_neg (by omega), if_neg (by omega), if_neg (by omega), if_neg (by omega)]
