/-! the reference: what changes it -/
theorem up_off (f : Int → Int) (o i v : Int) : (fun x => upI f (o + i) v (o + x)) = upI (fun x => f (o + x)) i v := by
  funext x
  unfold upI
  by_cases h : x = i
  · rw [if_pos (by omega), if_pos h]
  · rw [if_neg (by omega), if_neg h]
theorem up_out (f : Int → Int) {o j v : Int} (h : ∀ x, 0 ≤ x → x < 16 → o + x ≠ j) : ∀ x, 0 ≤ x → x < 16 → upI f j v (o + x) = f (o + x) := fun x h0 h1 => up_n _ _ (h x h0 h1)
/-- homes behind an exchange -/
def xcF (h : Int → Int) (i j : Int) : Int → Int := upI (upI h i (h j)) j (h i)
set_option maxHeartbeats 4000000 in
set_option maxRecDepth 20000 in
theorem cm_fault (D : Nat) (M : Mem) : CI D 122 [.inr (.inr 80)] M (fun v M' => v = M 80 12 ∧ M' = M) := by
  refine mk_C mt_122 rfl (Nat.le_of_ble_eq_true rfl) (L := [some _]) rfl ?_
  refine w_aload_n ta_122 rfl rfl ?_
  refine w_getI 12 ta_122 rfl rfl rfl ?_
  refine w_iret ta_122 rfl (Or.inl rfl) ?_
  exact ⟨_, rfl, rfl, rfl⟩
set_option maxHeartbeats 4000000 in
set_option maxRecDepth 20000 in
theorem cm_torn (D : Nat) (M : Mem) : CI D 190 [.inr (.inr 80)] M (fun v M' => v = M 80 25 ∧ M' = M) := by
  refine mk_C mt_190 rfl (Nat.le_of_ble_eq_true rfl) (L := [some _]) rfl ?_
  refine w_aload_n ta_190 rfl rfl ?_
  refine w_getI 25 ta_190 rfl rfl rfl ?_
  refine w_iret ta_190 rfl (Or.inl rfl) ?_
  exact ⟨_, rfl, rfl, rfl⟩
set_option maxHeartbeats 4000000 in
set_option maxRecDepth 20000 in
theorem cm_feed (D : Nat) (M : Mem) (x : Int) (hx : inR x) (t0 : 0 ≤ M 80 7) (t1 : M 80 7 ≤ 160) : CI (D + 1) 109 [.inr (.inr 80), .inl x] M (fun v M' => (¬ (0 ≤ x ∧ x ≤ 127) ∧ v = -1 ∧ M' = M) ∨ ((0 ≤ x ∧ x ≤ 127) ∧ M 80 7 = 160 ∧ v = -3 ∧ M' = M) ∨ ((0 ≤ x ∧ x ≤ 127) ∧ M 80 7 < 160 ∧ v = M 80 7 + 1 ∧ M' = wr (wr M 86 (M 80 7) x) 80 7 (M 80 7 + 1))) := by
  refine mk_C mt_109 rfl (Nat.le_of_ble_eq_true rfl) (L := [some _, some _]) rfl ?_
  obtain ⟨x0, x1⟩ := id hx
  refine w_iload_n ta_109 rfl rfl ?_
  refine w_i2l ta_109 rfl ⟨by omega, by omega⟩ ?_
  refine w_lconst ta_109 rfl ?_
  refine w_ldc2_w ta_109 rfl ?_
  refine w_cI [_, _, _] _ ta_109 rfl rfl rfl mt_106 rfl rfl rfl rfl (Nat.le_of_ble_eq_true rfl) (fun q => by cases q) rfl (cm_in _ x 0 127 M (by constructor <;> omega) (by constructor <;> omega) (by constructor <;> omega)) ?_
  rintro v M2 ⟨hv, rfl⟩
  refine w_if_ne ta_109 rfl ⟨by omega, by omega⟩ (fun h9 => ?_) (fun h9 => ?_)
  · refine w_aload_n ta_109 rfl rfl ?_
    refine w_getI 7 ta_109 rfl rfl rfl ?_
    refine w_sipush ta_109 rfl ?_
    refine w_icmp_ne ta_109 rfl ⟨by omega, by omega⟩ ⟨by omega, by omega⟩ (fun h21 => ?_) (fun h21 => ?_)
    · refine w_aload_n ta_109 rfl rfl ?_
      refine w_getR ta_109 rfl rfl ?_
      refine w_aload_n ta_109 rfl rfl ?_
      refine w_getI 7 ta_109 rfl rfl rfl ?_
      refine w_iload_n ta_109 rfl rfl ?_
      refine w_iastore ta_109 rfl rfl (by omega) (by omega) (by omega) ?_
      refine w_aload_n ta_109 rfl rfl ?_
      refine w_dup ta_109 rfl rfl ?_
      refine w_getIv 7 (v := M2 80 7) ta_109 rfl rfl rfl rfl ?_
      refine w_iconst ta_109 rfl ?_
      refine w_iadd ta_109 rfl ?_
      refine w_putI 7 ta_109 rfl rfl rfl ?_
      refine w_aload_n ta_109 rfl rfl ?_
      refine w_getIv 7 (v := M2 80 7 + 1) ta_109 rfl rfl rfl rfl ?_
      refine w_iret ta_109 rfl (Or.inl rfl) ?_
      exact ⟨_, rfl, Or.inr (Or.inr ⟨by omega, by omega, rfl, rfl⟩)⟩
    · refine w_bipush ta_109 rfl ?_
      refine w_iret ta_109 rfl (Or.inl rfl) ?_
      exact ⟨_, rfl, Or.inr (Or.inl ⟨by omega, by omega, rfl, rfl⟩)⟩
  · refine w_iconst ta_109 rfl ?_
    refine w_iret ta_109 rfl (Or.inl rfl) ?_
    exact ⟨_, rfl, Or.inl ⟨by omega, rfl, rfl⟩⟩
set_option maxHeartbeats 4000000 in
set_option maxRecDepth 20000 in
theorem cm_end (D : Nat) (M : Mem) (x : Int) (hx : inR x) (t0 : 0 ≤ M 80 7) (t1 : M 80 7 ≤ 160) : CI (D + 1) 110 [.inr (.inr 80), .inl x] M (fun v M' => (¬ (0 ≤ x ∧ x ≤ M 80 7) ∧ v = -1 ∧ M' = M) ∨ ((0 ≤ x ∧ x ≤ M 80 7) ∧ v = M 80 7 ∧ M' = wr M 80 7 x)) := by
  refine mk_C mt_110 rfl (Nat.le_of_ble_eq_true rfl) (L := [some _, some _, none]) rfl ?_
  obtain ⟨x0, x1⟩ := id hx
  refine w_iload_n ta_110 rfl rfl ?_
  refine w_i2l ta_110 rfl ⟨by omega, by omega⟩ ?_
  refine w_lconst ta_110 rfl ?_
  refine w_aload_n ta_110 rfl rfl ?_
  refine w_getI 7 ta_110 rfl rfl rfl ?_
  refine w_i2l ta_110 rfl ⟨by omega, by omega⟩ ?_
  refine w_cI [_, _, _] _ ta_110 rfl rfl rfl mt_106 rfl rfl rfl rfl (Nat.le_of_ble_eq_true rfl) (fun q => by cases q) rfl (cm_in _ x 0 _ M (by constructor <;> omega) (by constructor <;> omega) (by constructor <;> omega)) ?_
  rintro v M2 ⟨hv, rfl⟩
  refine w_if_ne ta_110 rfl ⟨by omega, by omega⟩ (fun h11 => ?_) (fun h11 => ?_)
  · refine w_aload_n ta_110 rfl rfl ?_
    refine w_getI 7 ta_110 rfl rfl rfl ?_
    refine w_istn_2_3 ta_110 rfl rfl ?_
    refine w_aload_n ta_110 rfl rfl ?_
    refine w_iload_n ta_110 rfl rfl ?_
    refine w_putI 7 ta_110 rfl rfl rfl ?_
    refine w_iload_n ta_110 rfl rfl ?_
    refine w_iret ta_110 rfl (Or.inl rfl) ?_
    exact ⟨_, rfl, Or.inr ⟨by omega, rfl, rfl⟩⟩
  · refine w_iconst ta_110 rfl ?_
    refine w_iret ta_110 rfl (Or.inl rfl) ?_
    exact ⟨_, rfl, Or.inl ⟨by omega, rfl, rfl⟩⟩
set_option maxHeartbeats 4000000 in
set_option maxRecDepth 20000 in
theorem cm_move (D : Nat) (M : Mem) (hI : MdI M) (x g : Int) (hx : inR x) (hg : inR g) : CI (D + 2) 166 [.inr (.inr 80), .inl x, .inl g] M (fun v M' => (¬ ((0 ≤ x ∧ x < M 81 0) ∧ 0 ≤ g ∧ g < M 81 1) ∧ v = -1 ∧ M' = M) ∨ (((0 ≤ x ∧ x < M 81 0) ∧ 0 ≤ g ∧ g < M 81 1) ∧ v = M 81 (37 + x) ∧ M' = wr M 81 (37 + x) g)) := by
  refine mk_C mt_166 rfl (Nat.le_of_ble_eq_true rfl) (L := [some _, some _, some _, none]) rfl ?_
  obtain ⟨n0, n1, k0, k1, f0, f1, r0, r1, s0, s1, hA⟩ := id hI
  refine w_aload_n ta_166 rfl rfl ?_
  refine w_iload_n ta_166 rfl rfl ?_
  refine w_cI [_, _] _ ta_166 rfl rfl rfl mt_123 rfl rfl rfl rfl (Nat.le_of_ble_eq_true rfl) (fun _ => rfl) rfl (cm_isCell _ M hI x hx) ?_
  rintro v M2 ⟨hv, rfl⟩
  refine w_if_eq ta_166 rfl ⟨by omega, by omega⟩ (fun h5 => ?_) (fun h5 => ?_)
  · refine w_iconst ta_166 rfl ?_
    refine w_iret ta_166 rfl (Or.inl rfl) ?_
    exact ⟨_, rfl, Or.inl ⟨by omega, rfl, rfl⟩⟩
  · refine w_aload_n ta_166 rfl rfl ?_
    refine w_iload_n ta_166 rfl rfl ?_
    refine w_cI [_, _] _ ta_166 rfl rfl rfl mt_124 rfl rfl rfl rfl (Nat.le_of_ble_eq_true rfl) (fun _ => rfl) rfl (cm_isGroup _ M2 hI g hg) ?_
    rintro v2 M3 ⟨hv2, rfl⟩
    refine w_if_ne ta_166 rfl ⟨by omega, by omega⟩ (fun h13 => ?_) (fun h13 => ?_)
    · refine w_aload_n ta_166 rfl rfl ?_
      refine w_getR ta_166 rfl rfl ?_
      refine w_bipush ta_166 rfl ?_
      refine w_iload_n ta_166 rfl rfl ?_
      refine w_iadd ta_166 rfl ?_
      refine w_iaload ta_166 rfl rfl (by omega) (by omega) (by omega) ?_
      refine w_istn_3_4 ta_166 rfl rfl ?_
      refine w_aload_n ta_166 rfl rfl ?_
      refine w_getR ta_166 rfl rfl ?_
      refine w_bipush ta_166 rfl ?_
      refine w_iload_n ta_166 rfl rfl ?_
      refine w_iadd ta_166 rfl ?_
      refine w_iload_n ta_166 rfl rfl ?_
      refine w_iastore ta_166 rfl rfl (by omega) (by omega) (by omega) ?_
      refine w_iload_n ta_166 rfl rfl ?_
      refine w_iret ta_166 rfl (Or.inl rfl) ?_
      exact ⟨_, rfl, Or.inr ⟨by omega, rfl, rfl⟩⟩
    · refine w_iconst ta_166 rfl ?_
      refine w_iret ta_166 rfl (Or.inl rfl) ?_
      exact ⟨_, rfl, Or.inl ⟨by omega, rfl, rfl⟩⟩
set_option maxHeartbeats 4000000 in
set_option maxRecDepth 20000 in
theorem cm_exchange (D : Nat) (M : Mem) (i j : Int) (i0 : 0 ≤ i) (i1 : i < 16) (j0 : 0 ≤ j) (j1 : j < 16) : CV D 167 [.inr (.inr 80), .inl i, .inl j] M (fun M' => M' = setC M 81 (upI (upI (M 81) (37 + i) (M 81 (37 + j))) (37 + j) (M 81 (37 + i)))) := by
  refine mk_C mt_167 rfl (Nat.le_of_ble_eq_true rfl) (L := [some _, some _, some _, none]) rfl ?_
  refine w_aload_n ta_167 rfl rfl ?_
  refine w_getR ta_167 rfl rfl ?_
  refine w_bipush ta_167 rfl ?_
  refine w_iload_n ta_167 rfl rfl ?_
  refine w_iadd ta_167 rfl ?_
  refine w_iaload ta_167 rfl rfl (by omega) (by omega) (by omega) ?_
  refine w_istn_3_4 ta_167 rfl rfl ?_
  refine w_aload_n ta_167 rfl rfl ?_
  refine w_getR ta_167 rfl rfl ?_
  refine w_bipush ta_167 rfl ?_
  refine w_iload_n ta_167 rfl rfl ?_
  refine w_iadd ta_167 rfl ?_
  refine w_aload_n ta_167 rfl rfl ?_
  refine w_getR ta_167 rfl rfl ?_
  refine w_bipush ta_167 rfl ?_
  refine w_iload_n ta_167 rfl rfl ?_
  refine w_iadd ta_167 rfl ?_
  refine w_iaload ta_167 rfl rfl (by omega) (by omega) (by omega) ?_
  refine w_iastore ta_167 rfl rfl (by omega) (by omega) (by omega) ?_
  refine w_aload_n ta_167 rfl rfl ?_
  refine w_getR ta_167 rfl rfl ?_
  refine w_bipush ta_167 rfl ?_
  refine w_iload_n ta_167 rfl rfl ?_
  refine w_iadd ta_167 rfl ?_
  refine w_iload_n ta_167 rfl rfl ?_
  refine w_iastore ta_167 rfl rfl (by omega) (by omega) (by omega) ?_
  refine w_vret ta_167 rfl ?_
  refine ⟨rfl, ?_⟩
  rw [show wr M 81 (37 + i) (M 81 (37 + j)) = setC M 81 (upI (M 81) (37 + i) (M 81 (37 + j))) from rfl, wr_sc]
theorem xc_G (M : Mem) (i j : Int) : mG (setC M 81 (upI (upI (M 81) (37 + i) (M 81 (37 + j))) (37 + j) (M 81 (37 + i)))) = xcF (mG M) i j := by
  show (fun x => upI (upI (M 81) (37 + i) (M 81 (37 + j))) (37 + j) (M 81 (37 + i)) (37 + x)) = _
  rw [up_off, up_off]
  rfl
theorem xc_I {M : Mem} (hI : MdI M) {i j : Int} (i0 : 0 ≤ i) (i1 : i < M 81 0) (j0 : 0 ≤ j) (j1 : j < M 81 0) : MdI (setC M 81 (upI (upI (M 81) (37 + i) (M 81 (37 + j))) (37 + j) (M 81 (37 + i)))) := by
  obtain ⟨n0, n1, k0, k1, f0, f1, r0, r1, s0, s1, hA⟩ := id hI
  have qi := hA i i0 i1
  have qj := hA j j0 j1
  have e : ∀ z : Int, z < 37 → setC M 81 (upI (upI (M 81) (37 + i) (M 81 (37 + j))) (37 + j) (M 81 (37 + i))) 81 z = M 81 z := fun z hz => by
    rw [sc_s, up_n _ _ (by omega), up_n _ _ (by omega)]
  unfold MdI
  rw [e 0 (by omega), e 1 (by omega), e 2 (by omega), e 3 (by omega), e 4 (by omega)]
  refine ⟨n0, n1, k0, k1, f0, f1, r0, r1, s0, s1, fun x h0 h1 => ?_⟩
  have q := hA x h0 h1
  rw [e (5 + x) (by omega), e (21 + x) (by omega), sc_s]
  unfold upI
  split
  · omega
  · split <;> omega
theorem xc_e {M : Mem} {i j z : Int} (i0 : 0 ≤ i) (j0 : 0 ≤ j) (hz : z < 37) : setC M 81 (upI (upI (M 81) (37 + i) (M 81 (37 + j))) (37 + j) (M 81 (37 + i))) 81 z = M 81 z := by
  rw [sc_s, up_n _ _ (by omega), up_n _ _ (by omega)]
theorem xc_S {M : Mem} {i j : Int} (i0 : 0 ≤ i) (j0 : 0 ≤ j) (n1 : M 81 0 ≤ 16) : mS (setC M 81 (upI (upI (M 81) (37 + i) (M 81 (37 + j))) (37 + j) (M 81 (37 + i)))) 21 = fun g => sumG (mH M) (xcF (mG M) i j) (M 81 0) g := by
  unfold mS
  rw [xc_G, xc_e i0 j0 (by omega)]
  funext g
  exact sumG_cg g (fun x h0 h1 => by show setC M 81 _ 81 (21 + x) = _; rw [xc_e i0 j0 (by omega)]) (fun _ _ _ => rfl)
theorem xc_back (M : Mem) {i j : Int} (hne : True) : setC (setC M 81 (upI (upI (M 81) (37 + i) (M 81 (37 + j))) (37 + j) (M 81 (37 + i)))) 81 (upI (upI (upI (upI (M 81) (37 + i) (M 81 (37 + j))) (37 + j) (M 81 (37 + i))) (37 + i) (upI (upI (M 81) (37 + i) (M 81 (37 + j))) (37 + j) (M 81 (37 + i)) (37 + j))) (37 + j) (upI (upI (M 81) (37 + i) (M 81 (37 + j))) (37 + j) (M 81 (37 + i)) (37 + i))) = M := by
  rw [sc_sc]
  have e : (upI (upI (upI (upI (M 81) (37 + i) (M 81 (37 + j))) (37 + j) (M 81 (37 + i))) (37 + i) (upI (upI (M 81) (37 + i) (M 81 (37 + j))) (37 + j) (M 81 (37 + i)) (37 + j))) (37 + j) (upI (upI (M 81) (37 + i) (M 81 (37 + j))) (37 + j) (M 81 (37 + i)) (37 + i))) = M 81 := by
    funext x
    unfold upI
    by_cases a : x = 37 + j
    · subst a
      by_cases b : 37 + i = 37 + j
      · have : i = j := by omega
        subst this
        simp
      · simp [b]
    · by_cases b : x = 37 + i
      · subst b
        simp [a]
      · simp [a, b]
  rw [e, sc_id]
set_option maxHeartbeats 4000000 in
set_option maxRecDepth 20000 in
theorem cm_swap (D : Nat) (M : Mem) (hI : MdI M) (x y : Int) (hx : inR x) (hy : inR y) : CI (D + 3) 168 [.inr (.inr 80), .inl x, .inl y] M (fun v M' => (¬ ((0 ≤ x ∧ x < M 81 0) ∧ 0 ≤ y ∧ y < M 81 0) ∧ v = -1 ∧ M' = M) ∨ (((0 ≤ x ∧ x < M 81 0) ∧ 0 ≤ y ∧ y < M 81 0) ∧ v = grZ (fun g => sumG (mH M) (xcF (mG M) x y) (M 81 0) g) (M 81 1) - lsZ (fun g => sumG (mH M) (xcF (mG M) x y) (M 81 0) g) (M 81 1) ∧ ∃ M1, M1 = setC M 81 (upI (upI (M 81) (37 + x) (M 81 (37 + y))) (37 + y) (M 81 (37 + x))) ∧ SmM 21 M1 M')) := by
  refine mk_C mt_168 rfl (Nat.le_of_ble_eq_true rfl) (L := [some _, some _, some _]) rfl ?_
  obtain ⟨n0, n1, k0, k1, f0, f1, r0, r1, s0, s1, hA⟩ := id hI
  refine w_aload_n ta_168 rfl rfl ?_
  refine w_iload_n ta_168 rfl rfl ?_
  refine w_cI [_, _] _ ta_168 rfl rfl rfl mt_123 rfl rfl rfl rfl (Nat.le_of_ble_eq_true rfl) (fun _ => rfl) rfl (cm_isCell _ M hI x hx) ?_
  rintro v M2 ⟨hv, rfl⟩
  refine w_if_eq ta_168 rfl ⟨by omega, by omega⟩ (fun h5 => ?_) (fun h5 => ?_)
  · refine w_iconst ta_168 rfl ?_
    refine w_iret ta_168 rfl (Or.inl rfl) ?_
    exact ⟨_, rfl, Or.inl ⟨by omega, rfl, rfl⟩⟩
  · refine w_aload_n ta_168 rfl rfl ?_
    refine w_iload_n ta_168 rfl rfl ?_
    refine w_cI [_, _] _ ta_168 rfl rfl rfl mt_123 rfl rfl rfl rfl (Nat.le_of_ble_eq_true rfl) (fun _ => rfl) rfl (cm_isCell _ M2 hI y hy) ?_
    rintro v2 M3 ⟨hv2, rfl⟩
    refine w_if_ne ta_168 rfl ⟨by omega, by omega⟩ (fun h13 => ?_) (fun h13 => ?_)
    · refine w_aload_n ta_168 rfl rfl ?_
      refine w_iload_n ta_168 rfl rfl ?_
      refine w_iload_n ta_168 rfl rfl ?_
      refine w_cV [_, _, _] _ ta_168 rfl rfl rfl mt_167 rfl rfl rfl rfl (Nat.le_of_ble_eq_true rfl) (fun _ => rfl) rfl (cm_exchange _ M3 x y (by omega) (by omega) (by omega) (by omega)) ?_
      rintro M4 hM4
      refine w_aload_n ta_168 rfl rfl ?_
      refine w_cI [_] _ ta_168 rfl rfl rfl mt_130 rfl rfl rfl rfl (Nat.le_of_ble_eq_true rfl) (fun _ => rfl) rfl (cm_spreadNow _ M4 (by rw [hM4]; exact xc_I hI (by omega) (by omega) (by omega) (by omega))) ?_
      rintro v3 M5 ⟨hv3, hS⟩
      refine w_iret ta_168 rfl (Or.inl rfl) ?_
      refine ⟨_, rfl, Or.inr ⟨by omega, ?_, M4, hM4, hS⟩⟩
      rw [hv3, hM4, xc_S (by omega) (by omega) n1, xc_e (by omega) (by omega) (by omega)]
    · refine w_iconst ta_168 rfl ?_
      refine w_iret ta_168 rfl (Or.inl rfl) ?_
      exact ⟨_, rfl, Or.inl ⟨by omega, rfl, rfl⟩⟩
theorem xc_eqv {M N : Mem} {i j : Int} (hN : ∀ c, c ≠ 88 → N c = M c) (i0 : 0 ≤ i) (j0 : 0 ≤ j) (n1 : M 81 0 ≤ 16) : lsZ (mS (setC N 81 (upI (upI (N 81) (37 + i) (N 81 (37 + j))) (37 + j) (N 81 (37 + i)))) 21) ((setC N 81 (upI (upI (N 81) (37 + i) (N 81 (37 + j))) (37 + j) (N 81 (37 + i)))) 81 1) = lsZ (fun g => sumG (mH M) (xcF (mG M) i j) (M 81 0) g) (M 81 1) := by
  have e : N 81 = M 81 := hN 81 (by decide)
  rw [xc_S i0 j0 (by rw [e]; exact n1), xc_e i0 j0 (by omega)]
  show lsZ (fun g => sumG (fun i => N 81 (21 + i)) (xcF (fun i => N 81 (37 + i)) i j) (N 81 0) g) (N 81 1) = _
  rw [e]
set_option maxHeartbeats 4000000 in
set_option maxRecDepth 20000 in
theorem lm_better2 (D : Nat) (M : Mem) (hI : MdI M) (hE : ∀ i j, 0 ≤ i → i < M 81 0 → 0 ≤ j → j < M 81 0 → inR ((fun i j => lsZ (fun g => sumG (mH M) (xcF (mG M) i j) (M 81 0) g) (M 81 1)) i j)) (P : Option AV → Mem → Prop) (i : Int) (i0 : 0 ≤ i) (i1 : i < M 81 0) (a : Int × Int) (ha : inR a.1) (hP : ∀ N, (∀ c, c ≠ 88 → N c = M c) → Wp (D + 3) 169 (83, [some (.inr (.inr 80)), some (.inl (btM (fun i j => lsZ (fun g => sumG (mH M) (xcF (mG M) i j) (M 81 0) g) (M 81 1)) i (M 81 0 - (i + 1)).toNat a).1), some (.inl (btM (fun i j => lsZ (fun g => sumG (mH M) (xcF (mG M) i j) (M 81 0) g) (M 81 1)) i (M 81 0 - (i + 1)).toNat a).2), some (.inl i), some (.inl (M 81 0))], [], N) P) : ∀ j : Int, i + 1 ≤ j → j ≤ M 81 0 → ∀ N, (∀ c, c ≠ 88 → N c = M c) → Wp (D + 3) 169 (27, [some (.inr (.inr 80)), some (.inl (btM (fun i j => lsZ (fun g => sumG (mH M) (xcF (mG M) i j) (M 81 0) g) (M 81 1)) i (j - (i + 1)).toNat a).1), some (.inl (btM (fun i j => lsZ (fun g => sumG (mH M) (xcF (mG M) i j) (M 81 0) g) (M 81 1)) i (j - (i + 1)).toNat a).2), some (.inl i), some (.inl j)], [], N) P := by
  obtain ⟨n0, n1, k0, k1, f0, f1, r0, r1, s0, s1, hA⟩ := id hI
  refine loopO (i + 1) (M 81 0) ?_
  intro j h0 h1 ih N hN
  refine w_iload ta_169 rfl rfl ?_
  refine w_aload_n ta_169 rfl rfl ?_
  refine w_getR ta_169 rfl rfl ?_
  refine w_iconst ta_169 rfl ?_
  refine w_ialoadv (v := M 81 0) ta_169 rfl rfl (by decide) (by decide) (by omega) (by rw [hN 81 (by decide)]) ?_
  refine w_icmp_ge ta_169 rfl ⟨by omega, by omega⟩ ⟨by omega, by omega⟩ (fun h35 => ?_) (fun h35 => ?_)
  · have e : j = M 81 0 := by omega
    subst e
    exact hP N hN
  · have e81 : N 81 = M 81 := hN 81 (by decide)
    have hI2 : MdI N := hI.of e81
    refine w_aload_n ta_169 rfl rfl ?_
    refine w_iload_n ta_169 rfl rfl ?_
    refine w_iload ta_169 rfl rfl ?_
    refine w_cV [_, _, _] _ ta_169 rfl rfl rfl mt_167 rfl rfl rfl rfl (Nat.le_of_ble_eq_true rfl) (fun _ => rfl) rfl (cm_exchange _ N i j i0 (by omega) (by omega) (by omega)) ?_
    rintro N2 hN2
    have hIx : MdI N2 := by rw [hN2]; exact xc_I hI2 i0 (by rw [e81]; exact i1) (by omega) (by rw [e81]; exact h35)
    refine w_aload_n ta_169 rfl rfl ?_
    refine w_bipush ta_169 rfl ?_
    refine w_cI [_, _] _ ta_169 rfl rfl rfl mt_133 rfl rfl rfl rfl (Nat.le_of_ble_eq_true rfl) (fun _ => rfl) rfl (cm_leastNow _ N2 hIx 21 (Or.inr rfl)) ?_
    rintro w N3 ⟨hw, hS⟩
    have ex := xc_eqv hN i0 (show 0 ≤ j by omega) n1
    rw [hN2, ex] at hw
    obtain ⟨w0, w1⟩ : inR (lsZ (fun g => sumG (mH M) (xcF (mG M) i j) (M 81 0) g) (M 81 1)) := hE i j i0 i1 (by omega) h35
    rw [← hw] at w0 w1
    obtain ⟨y0, y1⟩ := btM_b (E := (fun i j => lsZ (fun g => sumG (mH M) (xcF (mG M) i j) (M 81 0) g) (M 81 1))) (n := M 81 0) (fun j j0 j1 => hE i j i0 i1 j0 j1) i0 ha (j - (i + 1)).toNat (by omega)
    have ih := ih h35
    rw [show (j + 1 - (i + 1)).toNat = (j - (i + 1)).toNat + 1 by omega] at ih
    simp only [btM] at ih
    rw [show i + 1 + (((j - (i + 1)).toNat : Nat) : Int) = j by omega, ← hw] at ih
    refine w_iload_n ta_169 rfl rfl ?_
    refine w_icmp_le ta_169 rfl ⟨by omega, by omega⟩ ⟨by omega, by omega⟩ (fun h52 => ?_) (fun h52 => ?_)
    · refine w_aload_n ta_169 rfl rfl ?_
      refine w_iload_n ta_169 rfl rfl ?_
      refine w_iload ta_169 rfl rfl ?_
      refine w_cV [_, _, _] _ ta_169 rfl rfl rfl mt_167 rfl rfl rfl rfl (Nat.le_of_ble_eq_true rfl) (fun _ => rfl) rfl (cm_exchange _ _ i j i0 (by omega) (by omega) (by omega)) ?_
      rintro N5 hN5
      refine w_iinc_4_5 ta_169 rfl rfl ?_
      refine w_goto ta_169 rfl ?_
      have hN6 : ∀ c, c ≠ 88 → N5 c = M c := by
        intro c hc
        rw [hN5]
        by_cases e : c = 81
        · subst e
          rw [sc_s]
          first
            | rw [hS2.1 81 (by decide), hS.1 81 (by decide), hN2, sc_s]
            | rw [hS.1 81 (by decide), hN2, sc_s]
          have z := congrFun (xc_back N (i := i) (j := j) trivial) 81
          rw [sc_s] at z
          rw [z, e81]
        · rw [sc_n _ _ e]
          first
            | rw [hS2.1 c hc, hS.1 c hc, hN2, sc_n _ _ e, hN c hc]
            | rw [hS.1 c hc, hN2, sc_n _ _ e, hN c hc]
      first
        | (rw [if_pos (by omega)] at ih; exact ih N5 hN6)
        | (rw [if_neg (by omega)] at ih; exact ih N5 hN6)
    · refine w_aload_n ta_169 rfl rfl ?_
      refine w_bipush ta_169 rfl ?_
      refine w_cI [_, _] _ ta_169 rfl rfl rfl mt_133 rfl rfl rfl rfl (Nat.le_of_ble_eq_true rfl) (fun _ => rfl) rfl (cm_leastNow _ N3 (hS.I hIx) 21 (Or.inr rfl)) ?_
      rintro w2 N4 ⟨hw2, hS2⟩
      have e2 : mS N3 21 = mS N2 21 := by
        have := hS.1 81 (by decide)
        unfold mS mG
        rw [this]
      rw [e2, hS.1 81 (by decide), hN2, ex, ← hw] at hw2
      subst hw2
      refine w_istn_1_5 ta_169 rfl rfl ?_
      refine w_bipush ta_169 rfl ?_
      refine w_iload_n ta_169 rfl rfl ?_
      refine w_imul ta_169 rfl ?_
      refine w_iload ta_169 rfl rfl ?_
      refine w_iadd ta_169 rfl ?_
      refine w_istn_2_5 ta_169 rfl rfl ?_
      refine w_aload_n ta_169 rfl rfl ?_
      refine w_iload_n ta_169 rfl rfl ?_
      refine w_iload ta_169 rfl rfl ?_
      refine w_cV [_, _, _] _ ta_169 rfl rfl rfl mt_167 rfl rfl rfl rfl (Nat.le_of_ble_eq_true rfl) (fun _ => rfl) rfl (cm_exchange _ _ i j i0 (by omega) (by omega) (by omega)) ?_
      rintro N5 hN5
      refine w_iinc_4_5 ta_169 rfl rfl ?_
      refine w_goto ta_169 rfl ?_
      have hN6 : ∀ c, c ≠ 88 → N5 c = M c := by
        intro c hc
        rw [hN5]
        by_cases e : c = 81
        · subst e
          rw [sc_s]
          first
            | rw [hS2.1 81 (by decide), hS.1 81 (by decide), hN2, sc_s]
            | rw [hS.1 81 (by decide), hN2, sc_s]
          have z := congrFun (xc_back N (i := i) (j := j) trivial) 81
          rw [sc_s] at z
          rw [z, e81]
        · rw [sc_n _ _ e]
          first
            | rw [hS2.1 c hc, hS.1 c hc, hN2, sc_n _ _ e, hN c hc]
            | rw [hS.1 c hc, hN2, sc_n _ _ e, hN c hc]
      first
        | (rw [if_pos (by omega)] at ih; exact ih N5 hN6)
        | (rw [if_neg (by omega)] at ih; exact ih N5 hN6)
set_option maxHeartbeats 4000000 in
set_option maxRecDepth 20000 in
theorem lm_better1 (D : Nat) (M : Mem) (hI : MdI M) (hE : ∀ i j, 0 ≤ i → i < M 81 0 → 0 ≤ j → j < M 81 0 → inR ((fun i j => lsZ (fun g => sumG (mH M) (xcF (mG M) i j) (M 81 0) g) (M 81 1)) i j)) (a : Int × Int) (ha : inR a.1) : ∀ i : Int, 0 ≤ i → i ≤ M 81 0 → inR (btR (fun i j => lsZ (fun g => sumG (mH M) (xcF (mG M) i j) (M 81 0) g) (M 81 1)) (M 81 0) i.toNat a).1 → ∀ N, (∀ c, c ≠ 88 → N c = M c) → ∀ q : Option AV, isLg q = false → Wp (D + 3) 169 (12, [some (.inr (.inr 80)), some (.inl (btR (fun i j => lsZ (fun g => sumG (mH M) (xcF (mG M) i j) (M 81 0) g) (M 81 1)) (M 81 0) i.toNat a).1), some (.inl (btR (fun i j => lsZ (fun g => sumG (mH M) (xcF (mG M) i j) (M 81 0) g) (M 81 1)) (M 81 0) i.toNat a).2), some (.inl i), q], [], N) (fun r M' => ∃ v, r = some (.inl v) ∧ (v = (btR (fun i j => lsZ (fun g => sumG (mH M) (xcF (mG M) i j) (M 81 0) g) (M 81 1)) (M 81 0) (M 81 0).toNat a).2 ∧ ∀ c, c ≠ 88 → M' c = M c)) := by
  obtain ⟨n0, n1, k0, k1, f0, f1, r0, r1, s0, s1, hA⟩ := id hI
  refine loopZ (M 81 0) ?_
  intro i h0 h1 ih hb N hN q0 hq0
  refine w_iload_n ta_169 rfl rfl ?_
  refine w_aload_n ta_169 rfl rfl ?_
  refine w_getR ta_169 rfl rfl ?_
  refine w_iconst ta_169 rfl ?_
  refine w_ialoadv (v := M 81 0) ta_169 rfl rfl (by decide) (by decide) (by omega) (by rw [hN 81 (by decide)]) ?_
  refine w_icmp_ge ta_169 rfl ⟨by omega, by omega⟩ ⟨by omega, by omega⟩ (fun h19 => ?_) (fun h19 => ?_)
  · refine w_iload_n ta_169 rfl rfl ?_
    refine w_iret ta_169 rfl (Or.inl rfl) ?_
    exact ⟨_, rfl, by rw [show i = M 81 0 by omega], hN⟩
  · refine w_iload_n ta_169 rfl rfl ?_
    refine w_iconst ta_169 rfl ?_
    refine w_iadd ta_169 rfl ?_
    refine w_ist_4_5 ta_169 rfl rfl ?_
    have e0 : (i + 1 - (i + 1)).toNat = 0 := by omega
    have q := fun P hP => lm_better2 D M hI hE P i h0 h19 (btR (fun i j => lsZ (fun g => sumG (mH M) (xcF (mG M) i j) (M 81 0) g) (M 81 1)) (M 81 0) i.toNat a) hb hP (i + 1) (by omega) (by omega) N hN
    simp only [e0] at q
    refine q _ ?_
    · intro N2 hN2
      have ih := ih h19
      rw [show (i + 1).toNat = i.toNat + 1 by omega] at ih
      simp only [btR] at ih
      rw [show ((i.toNat : Nat) : Int) = i by omega] at ih
      have hb2 := btM_b (E := (fun i j => lsZ (fun g => sumG (mH M) (xcF (mG M) i j) (M 81 0) g) (M 81 1))) (n := M 81 0) (fun j j0 j1 => hE i j h0 h19 j0 j1) h0 hb (M 81 0 - (i + 1)).toNat (by omega)
      refine w_iinc_3_5 ta_169 rfl rfl ?_
      refine w_goto ta_169 rfl ?_
      exact ih hb2 N2 hN2 _ rfl
set_option maxHeartbeats 4000000 in
set_option maxRecDepth 20000 in
theorem cm_better (D : Nat) (M : Mem) (hI : MdI M) : CI (D + 3) 169 [.inr (.inr 80)] M (fun v M' => v = (btR (fun i j => lsZ (fun g => sumG (mH M) (xcF (mG M) i j) (M 81 0) g) (M 81 1)) (M 81 0) (M 81 0).toNat (lsZ (mS M 21) (M 81 1), -4)).2 ∧ ∀ c, c ≠ 88 → M' c = M c) := by
  refine mk_C mt_169 rfl (Nat.le_of_ble_eq_true rfl) (L := [some _, none, none, none, none]) rfl ?_
  obtain ⟨n0, n1, k0, k1, f0, f1, r0, r1, s0, s1, hA⟩ := id hI
  refine w_aload_n ta_169 rfl rfl ?_
  refine w_bipush ta_169 rfl ?_
  refine w_cI [_, _] _ ta_169 rfl rfl rfl mt_133 rfl rfl rfl rfl (Nat.le_of_ble_eq_true rfl) (fun _ => rfl) rfl (cm_leastNow _ M hI 21 (Or.inr rfl)) ?_
  rintro v M2 ⟨hv, hS⟩
  refine w_istn_1_5 ta_169 rfl rfl ?_
  refine w_bipush ta_169 rfl ?_
  refine w_istn_2_5 ta_169 rfl rfl ?_
  refine w_iconst ta_169 rfl ?_
  refine w_istn_3_5 ta_169 rfl rfl ?_
  have lb := mS_b hI (Or.inr rfl : (21 : Int) = 5 ∨ (21 : Int) = 21) (flZ (mS M 21) (M 81 1))
  have hE : ∀ i j, 0 ≤ i → i < M 81 0 → 0 ≤ j → j < M 81 0 → inR (lsZ (fun g => sumG (mH M) (xcF (mG M) i j) (M 81 0) g) (M 81 1)) := fun i j i0 i1 j0 j1 => by
    have := sumG_b (v := mH M) (h := xcF (mG M) i j) (n := M 81 0) 999 (flZ (fun g => sumG (mH M) (xcF (mG M) i j) (M 81 0) g) (M 81 1)) n1 (by omega) (fun x h0 h1 => by have := hA x h0 h1; exact ⟨by show 0 ≤ M 81 (21 + x); omega, by show M 81 (21 + x) ≤ 999; omega⟩)
    exact ⟨by show _ ≤ sumG (mH M) (xcF (mG M) i j) (M 81 0) _; omega, by show sumG (mH M) (xcF (mG M) i j) (M 81 0) _ < _; omega⟩
  have hb : inR (lsZ (mS M 21) (M 81 1)) := ⟨by show _ ≤ mS M 21 _; omega, by show mS M 21 _ < _; omega⟩
  rw [hv]
  exact lm_better1 D M hI hE (lsZ (mS M 21) (M 81 1), -4) hb 0 (by omega) n0 hb M2 hS.1 none rfl
