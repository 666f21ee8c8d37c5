/-! draw, images, sheets -/
theorem iAnd_mask (z : Int) : iAnd z 32767 = z % 32768 := by
  unfold iAnd
  rw [pk_and (Int32.ofInt z) (m := Int32.ofInt 32767) 15 (by decide), oi_bn]
  have h0 : (0 : Int) ≤ z % 4294967296 := Int.emod_nonneg _ (by decide)
  have e : (((z % 4294967296).toNat % 2 ^ 15 : Nat) : Int) = z % 32768 := by
    rw [Int.natCast_emod, Int.toNat_of_nonneg h0]
    show z % 4294967296 % 32768 = z % 32768
    omega
  have b : (z % 4294967296).toNat % 2 ^ 15 < 32768 := Nat.mod_lt _ (by decide)
  rw [nI_toInt (by omega), e]
def drS (seed : Int) : Nat → Int
  | 0 => seed
  | m + 1 => drS seed m * 1103515245 + 12345
def drV (seed : Int) (m : Nat) : Int := drS seed (m + 1) / 65536 % 32768 % 200 + 50
theorem drV_b (seed : Int) (m : Nat) : 50 ≤ drV seed m ∧ drV seed m ≤ 249 := by unfold drV; omega
theorem dr_u (z : Int) : iAnd (z % 4294967296 / 2 ^ (16 : Int).toNat) 32767 = z / 65536 % 32768 := by
  rw [iAnd_mask, show (2 : Int) ^ (16 : Int).toNat = 65536 by decide]
  omega
theorem dr_s (z : Int) : iAnd (z.bmod 4294967296 / 2 ^ (16 : Int).toNat) 32767 = z / 65536 % 32768 := by
  rw [iAnd_mask, show (2 : Int) ^ (16 : Int).toNat = 65536 by decide]
  rw [Int.bmod_def]
  split <;> omega
/-- cells by a seed: charges, contents, homes -/
def dA (seed k n : Int) (a : (Int → Int) × (Int → Int) × (Int → Int)) : Nat → (Int → Int) × (Int → Int) × (Int → Int)
  | 0 => a
  | m + 1 => (upI (dA seed k n a m).1 (n + m) (drV seed m), upI (dA seed k n a m).2.1 (n + m) (drV seed m), upI (dA seed k n a m).2.2 (n + m) (flZ (fun g => sumG (dA seed k n a m).2.1 (dA seed k n a m).2.2 (n + m) g) k))
theorem ApP_I {M M' : Mem} {v g : Int} (h : PkI 3 M) (a : ApP 3 v g M M') (v0 : 1 ≤ v) (v1 : v ≤ 999) (g0 : 0 ≤ g) (g1 : g < M 3 5) (n2 : M 3 4 < 16) : PkI 3 M' := by
  obtain ⟨n0, n1, k0, k1, f0, f1, r0, r1, s0, s1, hA⟩ := pkd_3 h
  obtain ⟨a0, a1, a2, a3, a4⟩ := a
  have a1 : M' 3 = upI (M 3) 4 (M 3 4 + 1) := a1
  have a2 : M' 4 = upI (M 4) (M 3 4) v := a2
  have a3 : M' 5 = upI (M 5) (M 3 4) v := a3
  have a4 : M' 6 = upI (M 6) (M 3 4) g := a4
  unfold PkI
  rw [a1, show (3 : Nat) + 1 = 4 from rfl, show (3 : Nat) + 2 = 5 from rfl, show (3 : Nat) + 3 = 6 from rfl, a2, a3, a4, up_s, up_n _ _ (by decide), up_n _ _ (by decide), up_n _ _ (by decide), up_n _ _ (by decide)]
  refine ⟨by omega, by omega, k0, k1, f0, f1, r0, r1, s0, s1, fun i h0 h1 => ?_⟩
  unfold upI
  by_cases e : i = M 3 4
  · rw [if_pos e, if_pos e, if_pos e]
    omega
  · rw [if_neg e, if_neg e, if_neg e]
    exact hA i h0 (by omega)
/-- what draw leaves behind m cells -/
def DwP (seed : Int) (m : Nat) (M M' : Mem) : Prop := (∀ c, c < 3 ∨ 7 < c → M' c = M c) ∧ M' 3 4 = M 3 4 + m ∧ (∀ j, j ≠ 4 → M' 3 j = M 3 j) ∧ M' 4 = (dA seed (M 3 5) (M 3 4) (M 4, M 5, M 6) m).1 ∧ M' 5 = (dA seed (M 3 5) (M 3 4) (M 4, M 5, M 6) m).2.1 ∧ M' 6 = (dA seed (M 3 5) (M 3 4) (M 4, M 5, M 6) m).2.2
set_option maxHeartbeats 4000000 in
set_option maxRecDepth 20000 in
theorem lp_draw (D : Nat) (M : Mem) (hI : PkI 3 M) (seed x cm : Int) (c0 : 0 ≤ cm) (c1 : cm ≤ 16 - M 3 4) : ∀ i : Int, 0 ≤ i → i ≤ cm → ∀ N, PkI 3 N → DwP seed i.toNat M N → ∀ q : Option AV, isLg q = false → Wp (D + 4) 81 (33, [some (.inr (.inr 0)), some (.inl seed), some (.inl x), some (.inl cm), some (.inl (drS seed i.toNat)), some (.inl i), q], [], N) (fun r M' => ∃ v, r = some (.inl v) ∧ (v = cm ∧ PkI 3 M' ∧ DwP seed cm.toNat M M')) := by
  obtain ⟨n0, n1, k0, k1, f0, f1, r0, r1, s0, s1, hA⟩ := pkd_3 hI
  refine loopZ cm ?_
  intro i h0 h1 ih N hN hW q0 hq0
  refine w_iload ta_81 rfl rfl ?_
  refine w_iload_n ta_81 rfl rfl ?_
  refine w_icmp_ge ta_81 rfl ⟨by omega, by omega⟩ ⟨by omega, by omega⟩ (fun h36 => ?_) (fun h36 => ?_)
  · refine w_iload_n ta_81 rfl rfl ?_
    refine w_iret ta_81 rfl (Or.inl rfl) ?_
    have e : i = cm := by omega
    subst e
    exact ⟨_, rfl, rfl, hN, hW⟩
  · refine w_iload ta_81 rfl rfl ?_
    refine w_ldcI ta_81 rfl rfl ?_
    refine w_imul ta_81 rfl ?_
    refine w_sipush ta_81 rfl ?_
    refine w_iadd ta_81 rfl ?_
    refine w_ist_4_7 ta_81 rfl rfl ?_
    refine w_iload ta_81 rfl rfl ?_
    refine w_bipush ta_81 rfl ?_
    refine w_iushr ta_81 rfl (by omega) (by omega) ?_
    refine w_sipush ta_81 rfl ?_
    refine w_iand ta_81 rfl ?_
    rw [dr_u]
    refine w_ist_6_7 ta_81 rfl rfl ?_
    refine w_aload_n ta_81 rfl rfl ?_
    refine w_getR ta_81 rfl rfl ?_
    refine w_iload ta_81 rfl rfl ?_
    refine w_sipush ta_81 rfl ?_
    refine w_irem ta_81 rfl (by omega) (by omega) (by omega) (by omega) ?_
    refine w_bipush ta_81 rfl ?_
    refine w_iadd ta_81 rfl ?_
    refine w_aload_n ta_81 rfl rfl ?_
    refine w_getR ta_81 rfl rfl ?_
    have vb := drV_b seed i.toNat
    have ev : drV seed i.toNat = (drS seed i.toNat * 1103515245 + 12345) / 65536 % 32768 % 200 + 50 := rfl
    refine w_cI [_] _ ta_81 rfl rfl rfl mt_18 rfl rfl rfl rfl (Nat.le_of_ble_eq_true rfl) (fun _ => rfl) rfl (c_weakest_3 _ N hN) ?_
    rintro v M2 ⟨hv, hS⟩
    have e3 : M2 3 = N 3 := hS.1 3 (by decide)
    have hI2 := hS.I hN
    refine w_cV [_, _, _] _ ta_81 rfl rfl rfl mt_15 rfl rfl rfl rfl (Nat.le_of_ble_eq_true rfl) (fun _ => rfl) rfl (c_append_3 _ M2 _ _ (by rw [e3]; exact hN.1) (by rw [e3, hW.2.1]; omega)) ?_
    rintro M3 hP
    have fb := flZ_b (SG 3 N) (k := N 3 5) (by have := (pkd_3 hN).2.2.1; omega)
    rw [← hv] at fb
    have hI3 := ApP_I hI2 hP (by omega) (by omega) fb.1 (by rw [e3]; exact fb.2) (by rw [e3, hW.2.1]; omega)
    have z := hP
    have ih := ih h36 M3 hI3
    refine w_iinc_5_7 ta_81 rfl rfl ?_
    refine w_goto ta_81 rfl ?_
    rw [show (i + 1).toNat = i.toNat + 1 by omega] at ih
    refine ih ?_ _ rfl
    obtain ⟨w0, w1, w2, w3, w4, w5⟩ := hW
    have e4 : M2 4 = N 4 := hS.1 4 (by decide)
    have e5 : M2 5 = N 5 := hS.1 5 (by decide)
    have e6 : M2 6 = N 6 := hS.1 6 (by decide)
    have nk : N 3 5 = M 3 5 := w2 5 (by decide)
    have hv : v = flZ (fun g => sumG (N 5) (N 6) (N 3 4) g) (N 3 5) := hv
    obtain ⟨p0, p1, p2, p3, p4⟩ := hP
    have p1 : M3 3 = upI (M2 3) 4 (M2 3 4 + 1) := p1
    have p2 : M3 4 = upI (M2 4) (M2 3 4) _ := p2
    have p3 : M3 5 = upI (M2 5) (M2 3 4) _ := p3
    have p4 : M3 6 = upI (M2 6) (M2 3 4) v := p4
    have en : N 3 4 = M 3 4 + ((i.toNat : Nat) : Int) := w1
    refine ⟨fun c hc => ?_, ?_, fun j hj => ?_, ?_, ?_, ?_⟩
    · rw [p0 c (by omega) (by omega) (by omega) (by omega), hS.1 c (by omega), w0 c hc]
    · rw [p1, up_s, e3, en]
      omega
    · rw [p1, up_n _ _ hj, e3, w2 j hj]
    · rw [p2, e3, e4, w3, en, ← ev]
      rfl
    · rw [p3, e3, e5, w4, en, ← ev]
      rfl
    · rw [p4, e3, e6, w5, en, hv, en, nk, w4, w5]
      rfl
set_option maxHeartbeats 4000000 in
set_option maxRecDepth 20000 in
theorem c_draw (D : Nat) (M : Mem) (hI : PkI 3 M) (seed x : Int) (hx : inR x) : CI (D + 4) 81 [.inr (.inr 0), .inl seed, .inl x] M (fun v M' => (¬ (1 ≤ x ∧ x ≤ 16) ∧ v = -1 ∧ M' = M) ∨ ((1 ≤ x ∧ x ≤ 16) ∧ v = (if 16 - M 3 4 < x then 16 - M 3 4 else x) ∧ PkI 3 M' ∧ DwP seed v.toNat M M')) := by
  refine mk_C mt_81 rfl (Nat.le_of_ble_eq_true rfl) (L := [some _, some _, some _, none, none, none, none]) rfl ?_
  obtain ⟨n0, n1, k0, k1, f0, f1, r0, r1, s0, s1, hA⟩ := pkd_3 hI
  refine w_iload_n ta_81 rfl rfl ?_
  refine w_iconst ta_81 rfl ?_
  refine w_bipush ta_81 rfl ?_
  refine w_cI [_, _, _] _ ta_81 rfl rfl rfl mt_89 rfl rfl rfl rfl (Nat.le_of_ble_eq_true rfl) (fun q => by cases q) rfl (c_win _ x _ _ M hx (by constructor <;> omega) (by constructor <;> omega)) ?_
  rintro v M2 ⟨hv, rfl⟩
  refine w_if_ne ta_81 rfl ⟨by omega, by omega⟩ (fun h7 => ?_) (fun h7 => ?_)
  · refine w_iload_n ta_81 rfl rfl ?_
    refine w_bipush ta_81 rfl ?_
    refine w_aload_n ta_81 rfl rfl ?_
    refine w_getR ta_81 rfl rfl ?_
    refine w_getI 4 ta_81 rfl rfl rfl ?_
    refine w_isub ta_81 rfl ?_
    refine w_min ta_81 rfl ⟨by omega, by omega⟩ ⟨by omega, by omega⟩ (Nat.le_of_ble_eq_true rfl) ?_
    refine w_istn_3_7 ta_81 rfl rfl ?_
    refine w_iload_n ta_81 rfl rfl ?_
    refine w_ist_4_7 ta_81 rfl rfl ?_
    refine w_iconst ta_81 rfl ?_
    refine w_ist_5_7 ta_81 rfl rfl ?_
    have q := lp_draw D M2 hI seed x (if 16 - M2 3 4 < x then 16 - M2 3 4 else x) (by split <;> omega) (by split <;> omega) 0 (by omega) (by split <;> omega) M2 hI ⟨fun _ _ => rfl, by omega, fun _ _ => rfl, rfl, rfl, rfl⟩ none rfl
    refine q.imp ?_
    rintro r M' ⟨w, hr, hw, hJ, hW⟩
    exact ⟨w, hr, Or.inr ⟨by omega, hw, hJ, by rw [hw]; exact hW⟩⟩
  · refine w_iconst ta_81 rfl ?_
    refine w_iret ta_81 rfl (Or.inl rfl) ?_
    exact ⟨_, rfl, Or.inl ⟨by omega, rfl, rfl⟩⟩
set_option maxHeartbeats 4000000 in
set_option maxRecDepth 20000 in
theorem c_keep_0 (D : Nat) (M : Mem) (b : M 25 0 = 0 ∨ M 25 0 = 1) : CI (D + 5) 82 [.inr (.inr 0), .inl 0] M (fun v M' => v = M 25 0 ∧ ∃ M1, CpP 13 3 M M1 ∧ M' = wr M1 25 0 1) := by
  refine mk_C mt_82 rfl (Nat.le_of_ble_eq_true rfl) (L := [some _, some _, none]) rfl ?_
  refine w_iload_n ta_82 rfl rfl ?_
  refine w_cI [_] _ ta_82 rfl rfl rfl mt_94 rfl rfl rfl rfl (Nat.le_of_ble_eq_true rfl) (fun q => by cases q) rfl (c_isImage _ M 0 (by constructor <;> omega)) ?_
  rintro v M2 ⟨hv, rfl⟩
  refine w_if_ne ta_82 rfl ⟨by omega, by omega⟩ (fun h4 => ?_) (fun h4 => ?_)
  · refine w_aload_n ta_82 rfl rfl ?_
    refine w_getR ta_82 rfl rfl ?_
    refine w_iload_n ta_82 rfl rfl ?_
    refine w_baload ta_82 rfl rfl (by decide) (by decide) (by omega) ?_
    refine w_if_eq ta_82 rfl ⟨by omega, by omega⟩ (fun h15 => ?_) (fun h15 => ?_)
    · refine w_iconst ta_82 rfl ?_
      refine w_istn_2_3 ta_82 rfl rfl ?_
      refine w_aload_n ta_82 rfl rfl ?_
      refine w_getR ta_82 rfl rfl ?_
      refine w_iload_n ta_82 rfl rfl ?_
      refine w_aaload (d := 13) ta_82 rfl rfl (by decide) (by decide) (by decide) rfl ?_
      refine w_aload_n ta_82 rfl rfl ?_
      refine w_getR ta_82 rfl rfl ?_
      refine w_cV [_, _] _ ta_82 rfl rfl rfl mt_14 rfl rfl rfl rfl (Nat.le_of_ble_eq_true rfl) (fun _ => rfl) rfl (c_copyFrom_13_3 _ M2) ?_
      rintro M3 hC
      refine w_aload_n ta_82 rfl rfl ?_
      refine w_getR ta_82 rfl rfl ?_
      refine w_iload_n ta_82 rfl rfl ?_
      refine w_iconst ta_82 rfl ?_
      refine w_bastore ta_82 rfl rfl (by decide) (by decide) (by omega) (by omega) ?_
      refine w_iload_n ta_82 rfl rfl ?_
      refine w_iret ta_82 rfl (Or.inl rfl) ?_
      exact ⟨_, rfl, by omega, M3, hC, rfl⟩
    · refine w_iconst ta_82 rfl ?_
      refine w_goto ta_82 rfl ?_
      refine w_istn_2_3 ta_82 rfl rfl ?_
      refine w_aload_n ta_82 rfl rfl ?_
      refine w_getR ta_82 rfl rfl ?_
      refine w_iload_n ta_82 rfl rfl ?_
      refine w_aaload (d := 13) ta_82 rfl rfl (by decide) (by decide) (by decide) rfl ?_
      refine w_aload_n ta_82 rfl rfl ?_
      refine w_getR ta_82 rfl rfl ?_
      refine w_cV [_, _] _ ta_82 rfl rfl rfl mt_14 rfl rfl rfl rfl (Nat.le_of_ble_eq_true rfl) (fun _ => rfl) rfl (c_copyFrom_13_3 _ M2) ?_
      rintro M3 hC
      refine w_aload_n ta_82 rfl rfl ?_
      refine w_getR ta_82 rfl rfl ?_
      refine w_iload_n ta_82 rfl rfl ?_
      refine w_iconst ta_82 rfl ?_
      refine w_bastore ta_82 rfl rfl (by decide) (by decide) (by omega) (by omega) ?_
      refine w_iload_n ta_82 rfl rfl ?_
      refine w_iret ta_82 rfl (Or.inl rfl) ?_
      exact ⟨_, rfl, by omega, M3, hC, rfl⟩
  · exfalso; omega
set_option maxHeartbeats 4000000 in
set_option maxRecDepth 20000 in
theorem c_back_0 (D : Nat) (M : Mem) (b : M 25 0 = 0 ∨ M 25 0 = 1) : CI (D + 5) 83 [.inr (.inr 0), .inl 0] M (fun v M' => (M 25 0 = 0 ∧ v = -2 ∧ M' = M) ∨ (M 25 0 = 1 ∧ v = M 13 4 ∧ CpP 3 13 M M')) := by
  refine mk_C mt_83 rfl (Nat.le_of_ble_eq_true rfl) (L := [some _, some _]) rfl ?_
  refine w_iload_n ta_83 rfl rfl ?_
  refine w_cI [_] _ ta_83 rfl rfl rfl mt_94 rfl rfl rfl rfl (Nat.le_of_ble_eq_true rfl) (fun q => by cases q) rfl (c_isImage _ M 0 (by constructor <;> omega)) ?_
  rintro v M2 ⟨hv, rfl⟩
  refine w_if_ne ta_83 rfl ⟨by omega, by omega⟩ (fun h4 => ?_) (fun h4 => ?_)
  · refine w_aload_n ta_83 rfl rfl ?_
    refine w_getR ta_83 rfl rfl ?_
    refine w_iload_n ta_83 rfl rfl ?_
    refine w_baload ta_83 rfl rfl (by decide) (by decide) (by omega) ?_
    refine w_if_ne ta_83 rfl ⟨by omega, by omega⟩ (fun h15 => ?_) (fun h15 => ?_)
    · refine w_aload_n ta_83 rfl rfl ?_
      refine w_getR ta_83 rfl rfl ?_
      refine w_aload_n ta_83 rfl rfl ?_
      refine w_getR ta_83 rfl rfl ?_
      refine w_iload_n ta_83 rfl rfl ?_
      refine w_aaload (d := 13) ta_83 rfl rfl (by decide) (by decide) (by decide) rfl ?_
      refine w_cV [_, _] _ ta_83 rfl rfl rfl mt_14 rfl rfl rfl rfl (Nat.le_of_ble_eq_true rfl) (fun _ => rfl) rfl (c_copyFrom_3_13 _ M2) ?_
      rintro M3 hC
      refine w_aload_n ta_83 rfl rfl ?_
      refine w_getR ta_83 rfl rfl ?_
      refine w_getIv 4 (v := M2 13 4) ta_83 rfl rfl rfl (hC.2.1 4 (by omega) (by omega)) ?_
      refine w_iret ta_83 rfl (Or.inl rfl) ?_
      exact ⟨_, rfl, Or.inr ⟨by omega, rfl, hC⟩⟩
    · refine w_bipush ta_83 rfl ?_
      refine w_iret ta_83 rfl (Or.inl rfl) ?_
      exact ⟨_, rfl, Or.inl ⟨by omega, rfl, rfl⟩⟩
  · exfalso; omega
set_option maxHeartbeats 4000000 in
set_option maxRecDepth 20000 in
theorem c_keep_1 (D : Nat) (M : Mem) (b : M 25 1 = 0 ∨ M 25 1 = 1) : CI (D + 5) 82 [.inr (.inr 0), .inl 1] M (fun v M' => v = M 25 1 ∧ ∃ M1, CpP 18 3 M M1 ∧ M' = wr M1 25 1 1) := by
  refine mk_C mt_82 rfl (Nat.le_of_ble_eq_true rfl) (L := [some _, some _, none]) rfl ?_
  refine w_iload_n ta_82 rfl rfl ?_
  refine w_cI [_] _ ta_82 rfl rfl rfl mt_94 rfl rfl rfl rfl (Nat.le_of_ble_eq_true rfl) (fun q => by cases q) rfl (c_isImage _ M 1 (by constructor <;> omega)) ?_
  rintro v M2 ⟨hv, rfl⟩
  refine w_if_ne ta_82 rfl ⟨by omega, by omega⟩ (fun h4 => ?_) (fun h4 => ?_)
  · refine w_aload_n ta_82 rfl rfl ?_
    refine w_getR ta_82 rfl rfl ?_
    refine w_iload_n ta_82 rfl rfl ?_
    refine w_baload ta_82 rfl rfl (by decide) (by decide) (by omega) ?_
    refine w_if_eq ta_82 rfl ⟨by omega, by omega⟩ (fun h15 => ?_) (fun h15 => ?_)
    · refine w_iconst ta_82 rfl ?_
      refine w_istn_2_3 ta_82 rfl rfl ?_
      refine w_aload_n ta_82 rfl rfl ?_
      refine w_getR ta_82 rfl rfl ?_
      refine w_iload_n ta_82 rfl rfl ?_
      refine w_aaload (d := 18) ta_82 rfl rfl (by decide) (by decide) (by decide) rfl ?_
      refine w_aload_n ta_82 rfl rfl ?_
      refine w_getR ta_82 rfl rfl ?_
      refine w_cV [_, _] _ ta_82 rfl rfl rfl mt_14 rfl rfl rfl rfl (Nat.le_of_ble_eq_true rfl) (fun _ => rfl) rfl (c_copyFrom_18_3 _ M2) ?_
      rintro M3 hC
      refine w_aload_n ta_82 rfl rfl ?_
      refine w_getR ta_82 rfl rfl ?_
      refine w_iload_n ta_82 rfl rfl ?_
      refine w_iconst ta_82 rfl ?_
      refine w_bastore ta_82 rfl rfl (by decide) (by decide) (by omega) (by omega) ?_
      refine w_iload_n ta_82 rfl rfl ?_
      refine w_iret ta_82 rfl (Or.inl rfl) ?_
      exact ⟨_, rfl, by omega, M3, hC, rfl⟩
    · refine w_iconst ta_82 rfl ?_
      refine w_goto ta_82 rfl ?_
      refine w_istn_2_3 ta_82 rfl rfl ?_
      refine w_aload_n ta_82 rfl rfl ?_
      refine w_getR ta_82 rfl rfl ?_
      refine w_iload_n ta_82 rfl rfl ?_
      refine w_aaload (d := 18) ta_82 rfl rfl (by decide) (by decide) (by decide) rfl ?_
      refine w_aload_n ta_82 rfl rfl ?_
      refine w_getR ta_82 rfl rfl ?_
      refine w_cV [_, _] _ ta_82 rfl rfl rfl mt_14 rfl rfl rfl rfl (Nat.le_of_ble_eq_true rfl) (fun _ => rfl) rfl (c_copyFrom_18_3 _ M2) ?_
      rintro M3 hC
      refine w_aload_n ta_82 rfl rfl ?_
      refine w_getR ta_82 rfl rfl ?_
      refine w_iload_n ta_82 rfl rfl ?_
      refine w_iconst ta_82 rfl ?_
      refine w_bastore ta_82 rfl rfl (by decide) (by decide) (by omega) (by omega) ?_
      refine w_iload_n ta_82 rfl rfl ?_
      refine w_iret ta_82 rfl (Or.inl rfl) ?_
      exact ⟨_, rfl, by omega, M3, hC, rfl⟩
  · exfalso; omega
set_option maxHeartbeats 4000000 in
set_option maxRecDepth 20000 in
theorem c_back_1 (D : Nat) (M : Mem) (b : M 25 1 = 0 ∨ M 25 1 = 1) : CI (D + 5) 83 [.inr (.inr 0), .inl 1] M (fun v M' => (M 25 1 = 0 ∧ v = -2 ∧ M' = M) ∨ (M 25 1 = 1 ∧ v = M 18 4 ∧ CpP 3 18 M M')) := by
  refine mk_C mt_83 rfl (Nat.le_of_ble_eq_true rfl) (L := [some _, some _]) rfl ?_
  refine w_iload_n ta_83 rfl rfl ?_
  refine w_cI [_] _ ta_83 rfl rfl rfl mt_94 rfl rfl rfl rfl (Nat.le_of_ble_eq_true rfl) (fun q => by cases q) rfl (c_isImage _ M 1 (by constructor <;> omega)) ?_
  rintro v M2 ⟨hv, rfl⟩
  refine w_if_ne ta_83 rfl ⟨by omega, by omega⟩ (fun h4 => ?_) (fun h4 => ?_)
  · refine w_aload_n ta_83 rfl rfl ?_
    refine w_getR ta_83 rfl rfl ?_
    refine w_iload_n ta_83 rfl rfl ?_
    refine w_baload ta_83 rfl rfl (by decide) (by decide) (by omega) ?_
    refine w_if_ne ta_83 rfl ⟨by omega, by omega⟩ (fun h15 => ?_) (fun h15 => ?_)
    · refine w_aload_n ta_83 rfl rfl ?_
      refine w_getR ta_83 rfl rfl ?_
      refine w_aload_n ta_83 rfl rfl ?_
      refine w_getR ta_83 rfl rfl ?_
      refine w_iload_n ta_83 rfl rfl ?_
      refine w_aaload (d := 18) ta_83 rfl rfl (by decide) (by decide) (by decide) rfl ?_
      refine w_cV [_, _] _ ta_83 rfl rfl rfl mt_14 rfl rfl rfl rfl (Nat.le_of_ble_eq_true rfl) (fun _ => rfl) rfl (c_copyFrom_3_18 _ M2) ?_
      rintro M3 hC
      refine w_aload_n ta_83 rfl rfl ?_
      refine w_getR ta_83 rfl rfl ?_
      refine w_getIv 4 (v := M2 18 4) ta_83 rfl rfl rfl (hC.2.1 4 (by omega) (by omega)) ?_
      refine w_iret ta_83 rfl (Or.inl rfl) ?_
      exact ⟨_, rfl, Or.inr ⟨by omega, rfl, hC⟩⟩
    · refine w_bipush ta_83 rfl ?_
      refine w_iret ta_83 rfl (Or.inl rfl) ?_
      exact ⟨_, rfl, Or.inl ⟨by omega, rfl, rfl⟩⟩
  · exfalso; omega
set_option maxHeartbeats 4000000 in
set_option maxRecDepth 20000 in
theorem c_keep_x (D : Nat) (M : Mem) (x : Int) (hx : inR x) (h : ¬ (0 ≤ x ∧ x < 2)) : CI (D + 5) 82 [.inr (.inr 0), .inl x] M (fun v M' => v = -1 ∧ M' = M) := by
  refine mk_C mt_82 rfl (Nat.le_of_ble_eq_true rfl) (L := [some _, some _, none]) rfl ?_
  refine w_iload_n ta_82 rfl rfl ?_
  refine w_cI [_] _ ta_82 rfl rfl rfl mt_94 rfl rfl rfl rfl (Nat.le_of_ble_eq_true rfl) (fun q => by cases q) rfl (c_isImage _ M x hx) ?_
  rintro v M2 ⟨hv, rfl⟩
  refine w_if_ne ta_82 rfl ⟨by omega, by omega⟩ (fun h4 => ?_) (fun h4 => ?_)
  · exfalso; omega
  · refine w_iconst ta_82 rfl ?_
    refine w_iret ta_82 rfl (Or.inl rfl) ?_
    exact ⟨_, rfl, rfl, rfl⟩
set_option maxHeartbeats 4000000 in
set_option maxRecDepth 20000 in
theorem c_back_x (D : Nat) (M : Mem) (x : Int) (hx : inR x) (h : ¬ (0 ≤ x ∧ x < 2)) : CI (D + 5) 83 [.inr (.inr 0), .inl x] M (fun v M' => v = -1 ∧ M' = M) := by
  refine mk_C mt_83 rfl (Nat.le_of_ble_eq_true rfl) (L := [some _, some _]) rfl ?_
  refine w_iload_n ta_83 rfl rfl ?_
  refine w_cI [_] _ ta_83 rfl rfl rfl mt_94 rfl rfl rfl rfl (Nat.le_of_ble_eq_true rfl) (fun q => by cases q) rfl (c_isImage _ M x hx) ?_
  rintro v M2 ⟨hv, rfl⟩
  refine w_if_ne ta_83 rfl ⟨by omega, by omega⟩ (fun h4 => ?_) (fun h4 => ?_)
  · exfalso; omega
  · refine w_iconst ta_83 rfl ?_
    refine w_iret ta_83 rfl (Or.inl rfl) ?_
    exact ⟨_, rfl, rfl, rfl⟩
set_option maxHeartbeats 4000000 in
set_option maxRecDepth 20000 in
theorem c_forget (D : Nat) (M : Mem) : CV D 99 [.inr (.inr 0)] M (fun M' => M' = wr (wr M 25 0 0) 25 1 0) := by
  refine mk_C mt_99 rfl (Nat.le_of_ble_eq_true rfl) (L := [some _, none]) rfl ?_
  refine w_iconst ta_99 rfl ?_
  refine w_istn_1_2 ta_99 rfl rfl ?_
  refine w_iload_n ta_99 rfl rfl ?_
  refine w_iconst ta_99 rfl ?_
  refine w_icmp_ge ta_99 rfl ⟨by omega, by omega⟩ ⟨by omega, by omega⟩ (fun h4 => ?_) (fun h4 => ?_)
  · exfalso; omega
  · refine w_aload_n ta_99 rfl rfl ?_
    refine w_getR ta_99 rfl rfl ?_
    refine w_iload_n ta_99 rfl rfl ?_
    refine w_iconst ta_99 rfl ?_
    refine w_bastore ta_99 rfl rfl (by decide) (by decide) (by omega) (by omega) ?_
    refine w_iinc_1_2 ta_99 rfl rfl ?_
    refine w_goto ta_99 rfl ?_
    refine w_iload_n ta_99 rfl rfl ?_
    refine w_iconst ta_99 rfl ?_
    refine w_icmp_ge ta_99 rfl ⟨by omega, by omega⟩ ⟨by omega, by omega⟩ (fun h4 => ?_) (fun h4 => ?_)
    · exfalso; omega
    · refine w_aload_n ta_99 rfl rfl ?_
      refine w_getR ta_99 rfl rfl ?_
      refine w_iload_n ta_99 rfl rfl ?_
      refine w_iconst ta_99 rfl ?_
      refine w_bastore ta_99 rfl rfl (by decide) (by decide) (by omega) (by omega) ?_
      refine w_iinc_1_2 ta_99 rfl rfl ?_
      refine w_goto ta_99 rfl ?_
      refine w_iload_n ta_99 rfl rfl ?_
      refine w_iconst ta_99 rfl ?_
      refine w_icmp_ge ta_99 rfl ⟨by omega, by omega⟩ ⟨by omega, by omega⟩ (fun h4 => ?_) (fun h4 => ?_)
      · refine w_vret ta_99 rfl ?_
        exact ⟨rfl, rfl⟩
      · exfalso; omega
set_option maxHeartbeats 4000000 in
set_option maxRecDepth 20000 in
theorem lp_kept (D : Nat) (M : Mem) (b : ∀ j, 0 ≤ j → j < 2 → M 25 j = 0 ∨ M 25 j = 1) : ∀ i : Int, 0 ≤ i → i ≤ 2 → Wp D 100 (4, [some (.inr (.inr 0)), some (.inl (sumZ (M 25) i)), some (.inl i)], [], M) (fun r M' => ∃ v, r = some (.inl v) ∧ (v = sumZ (M 25) 2 ∧ M' = M)) := by
  refine loopZ 2 ?_
  intro i h0 h1 ih
  refine w_iload_n ta_100 rfl rfl ?_
  refine w_iconst ta_100 rfl ?_
  refine w_icmp_ge ta_100 rfl ⟨by omega, by omega⟩ ⟨by omega, by omega⟩ (fun h6 => ?_) (fun h6 => ?_)
  · refine w_iload_n ta_100 rfl rfl ?_
    refine w_iret ta_100 rfl (Or.inl rfl) ?_
    exact ⟨_, rfl, by rw [show i = 2 by omega], rfl⟩
  · have q := b i h0 h6
    have ih := ih h6
    rw [sumZ_s _ h0] at ih
    refine w_aload_n ta_100 rfl rfl ?_
    refine w_getR ta_100 rfl rfl ?_
    refine w_iload_n ta_100 rfl rfl ?_
    refine w_baload ta_100 rfl rfl (by omega) (by omega) (by omega) ?_
    refine w_if_eq ta_100 rfl ⟨by omega, by omega⟩ (fun h15 => ?_) (fun h15 => ?_)
    · refine w_iinc_2_3 ta_100 rfl rfl ?_
      refine w_goto ta_100 rfl ?_
      first
        | (rw [show M 25 i = 0 by omega, Int.add_zero] at ih; exact ih)
        | (rw [show M 25 i = 1 by omega] at ih; exact ih)
    · refine w_iinc_1_3 ta_100 rfl rfl ?_
      refine w_iinc_2_3 ta_100 rfl rfl ?_
      refine w_goto ta_100 rfl ?_
      first
        | (rw [show M 25 i = 0 by omega, Int.add_zero] at ih; exact ih)
        | (rw [show M 25 i = 1 by omega] at ih; exact ih)
set_option maxHeartbeats 4000000 in
set_option maxRecDepth 20000 in
theorem c_kept (D : Nat) (M : Mem) (b : ∀ j, 0 ≤ j → j < 2 → M 25 j = 0 ∨ M 25 j = 1) : CI D 100 [.inr (.inr 0)] M (fun v M' => v = sumZ (M 25) 2 ∧ M' = M) := by
  refine mk_C mt_100 rfl (Nat.le_of_ble_eq_true rfl) (L := [some _, none, none]) rfl ?_
  refine w_iconst ta_100 rfl ?_
  refine w_istn_1_3 ta_100 rfl rfl ?_
  refine w_iconst ta_100 rfl ?_
  refine w_istn_2_3 ta_100 rfl rfl ?_
  exact lp_kept D M b 0 (by omega) (by omega)
set_option maxHeartbeats 4000000 in
set_option maxRecDepth 20000 in
theorem c_renew_0 (D : Nat) (M : Mem) (l n : Int) : CV (D + 1) 33 [.inr (.inr 72), .inl l, .inl n] M (fun M' => M' = setC (wr (wr M 72 1 l) 72 2 n) 73 (filF (M 73) 0 40)) := by
  refine mk_C mt_33 rfl (Nat.le_of_ble_eq_true rfl) (L := [some _, some _, some _]) rfl ?_
  refine w_aload_n ta_33 rfl rfl ?_
  refine w_iload_n ta_33 rfl rfl ?_
  refine w_putI 1 ta_33 rfl rfl rfl ?_
  refine w_aload_n ta_33 rfl rfl ?_
  refine w_iload_n ta_33 rfl rfl ?_
  refine w_putI 2 ta_33 rfl rfl rfl ?_
  refine w_aload_n ta_33 rfl rfl ?_
  refine w_getR ta_33 rfl rfl ?_
  refine w_iconst ta_33 rfl ?_
  refine w_cV [_, _] _ ta_33 rfl rfl rfl mt_196 rfl rfl rfl rfl (Nat.le_of_ble_eq_true rfl) (fun q => by cases q) rfl (c_fill _ 73 40 0 _ rfl (by decide)) ?_
  rintro M2 rfl
  refine w_vret ta_33 rfl ?_
  exact ⟨rfl, rfl⟩
set_option maxHeartbeats 4000000 in
set_option maxRecDepth 20000 in
theorem c_putAt_0 (D : Nat) (M : Mem) (l0 : -1 ≤ M 72 1) (l1 : M 72 1 ≤ 2) (z0 : 0 ≤ M 72 2) (z1 : M 72 2 ≤ 40) (i v : Int) (hi : inR i) : CI (D + 1) 34 [.inr (.inr 72), .inl i, .inl v] M (fun w M' => (M 72 1 = -1 ∧ w = 1 ∧ M' = M) ∨ (M 72 1 ≠ -1 ∧ ¬ (0 ≤ i ∧ i < M 72 2) ∧ w = 2 ∧ M' = M) ∨ (M 72 1 ≠ -1 ∧ (0 ≤ i ∧ i < M 72 2) ∧ w = 0 ∧ M' = wr M 73 i (if M 72 1 = 0 then v.bmod 256 else if M 72 1 = 1 then v.bmod 65536 else v))) := by
  refine mk_C mt_34 rfl (Nat.le_of_ble_eq_true rfl) (L := [some _, some _, some _]) rfl ?_
  refine w_aload_n ta_34 rfl rfl ?_
  refine w_getI 1 ta_34 rfl rfl rfl ?_
  refine w_iconst ta_34 rfl ?_
  refine w_icmp_ne ta_34 rfl ⟨by omega, by omega⟩ ⟨by omega, by omega⟩ (fun h5 => ?_) (fun h5 => ?_)
  · refine w_iload_n ta_34 rfl rfl ?_
    refine w_iconst ta_34 rfl ?_
    refine w_aload_n ta_34 rfl rfl ?_
    refine w_getI 2 ta_34 rfl rfl rfl ?_
    refine w_iconst ta_34 rfl ?_
    refine w_isub ta_34 rfl ?_
    refine w_cI [_, _, _] _ ta_34 rfl rfl rfl mt_89 rfl rfl rfl rfl (Nat.le_of_ble_eq_true rfl) (fun q => by cases q) rfl (c_win _ i _ _ M hi (by constructor <;> omega) (by constructor <;> omega)) ?_
    rintro vw M2 ⟨hvw, rfl⟩
    refine w_if_ne ta_34 rfl ⟨by omega, by omega⟩ (fun h21 => ?_) (fun h21 => ?_)
    · refine w_aload_n ta_34 rfl rfl ?_
      refine w_getR ta_34 rfl rfl ?_
      refine w_iload_n ta_34 rfl rfl ?_
      refine w_aload_n ta_34 rfl rfl ?_
      refine w_getI 1 ta_34 rfl rfl rfl ?_
      refine w_if_ne ta_34 rfl ⟨by omega, by omega⟩ (fun h35 => ?_) (fun h35 => ?_)
      · refine w_aload_n ta_34 rfl rfl ?_
        refine w_getI 1 ta_34 rfl rfl rfl ?_
        refine w_iconst ta_34 rfl ?_
        refine w_icmp_ne ta_34 rfl ⟨by omega, by omega⟩ ⟨by omega, by omega⟩ (fun h48 => ?_) (fun h48 => ?_)
        · refine w_iload_n ta_34 rfl rfl ?_
          refine w_iastore ta_34 rfl rfl (by omega) (by omega) (by omega) ?_
          refine w_iconst ta_34 rfl ?_
          refine w_iret ta_34 rfl (Or.inl rfl) ?_
          refine ⟨_, rfl, Or.inr (Or.inr ⟨by omega, by omega, rfl, ?_⟩)⟩
          first
            | rw [if_pos (by omega)]
            | rw [if_neg (by omega), if_pos (by omega)]
            | rw [if_neg (by omega), if_neg (by omega)]
        · refine w_iload_n ta_34 rfl rfl ?_
          refine w_i2s ta_34 rfl ?_
          refine w_goto ta_34 rfl ?_
          refine w_iastore ta_34 rfl rfl (by omega) (by omega) (by omega) ?_
          refine w_iconst ta_34 rfl ?_
          refine w_iret ta_34 rfl (Or.inl rfl) ?_
          refine ⟨_, rfl, Or.inr (Or.inr ⟨by omega, by omega, rfl, ?_⟩)⟩
          first
            | rw [if_pos (by omega)]
            | rw [if_neg (by omega), if_pos (by omega)]
            | rw [if_neg (by omega), if_neg (by omega)]
      · refine w_iload_n ta_34 rfl rfl ?_
        refine w_i2b ta_34 rfl ?_
        refine w_goto ta_34 rfl ?_
        refine w_iastore ta_34 rfl rfl (by omega) (by omega) (by omega) ?_
        refine w_iconst ta_34 rfl ?_
        refine w_iret ta_34 rfl (Or.inl rfl) ?_
        refine ⟨_, rfl, Or.inr (Or.inr ⟨by omega, by omega, rfl, ?_⟩)⟩
        first
          | rw [if_pos (by omega)]
          | rw [if_neg (by omega), if_pos (by omega)]
          | rw [if_neg (by omega), if_neg (by omega)]
    · refine w_iconst ta_34 rfl ?_
      refine w_iret ta_34 rfl (Or.inl rfl) ?_
      exact ⟨_, rfl, Or.inr (Or.inl ⟨by omega, by omega, rfl, rfl⟩)⟩
  · refine w_iconst ta_34 rfl ?_
    refine w_iret ta_34 rfl (Or.inl rfl) ?_
    exact ⟨_, rfl, Or.inl ⟨by omega, rfl, rfl⟩⟩
set_option maxHeartbeats 4000000 in
set_option maxRecDepth 20000 in
theorem c_wholePairs_0 (D : Nat) (M : Mem) (l0 : -1 ≤ M 72 1) (l1 : M 72 1 ≤ 2) (z0 : 0 ≤ M 72 2) (z1 : M 72 2 ≤ 40) (l f n : Int) (hl : inR l) (hf : inR f) (hn : inR n) : CI (D + 4) 35 [.inr (.inr 72), .inl l, .inl f, .inl n] M (fun w M' => w = (if M 72 1 = l ∧ 0 ≤ f ∧ f < M 72 2 then (if (M 72 2 - f) / 2 < n then (M 72 2 - f) / 2 else n) else 0) ∧ M' = M) := by
  refine mk_C mt_35 rfl (Nat.le_of_ble_eq_true rfl) (L := [some _, some _, some _, some _]) rfl ?_
  obtain ⟨l2, l3⟩ := id hl
  obtain ⟨f2, f3⟩ := id hf
  obtain ⟨n2, n3⟩ := id hn
  refine w_aload_n ta_35 rfl rfl ?_
  refine w_getI 1 ta_35 rfl rfl rfl ?_
  refine w_iload_n ta_35 rfl rfl ?_
  refine w_icmp_ne ta_35 rfl ⟨by omega, by omega⟩ ⟨by omega, by omega⟩ (fun h5 => ?_) (fun h5 => ?_)
  · refine w_iconst ta_35 rfl ?_
    refine w_iret ta_35 rfl (Or.inl rfl) ?_
    exact ⟨_, rfl, by rw [if_neg (by omega)], rfl⟩
  · refine w_iload_n ta_35 rfl rfl ?_
    refine w_iconst ta_35 rfl ?_
    refine w_aload_n ta_35 rfl rfl ?_
    refine w_getI 2 ta_35 rfl rfl rfl ?_
    refine w_iconst ta_35 rfl ?_
    refine w_isub ta_35 rfl ?_
    refine w_cI [_, _, _] _ ta_35 rfl rfl rfl mt_89 rfl rfl rfl rfl (Nat.le_of_ble_eq_true rfl) (fun q => by cases q) rfl (c_win _ f _ _ M hf (by constructor <;> omega) (by constructor <;> omega)) ?_
    rintro vw M2 ⟨hvw, rfl⟩
    refine w_if_ne ta_35 rfl ⟨by omega, by omega⟩ (fun h19 => ?_) (fun h19 => ?_)
    · refine w_iload_n ta_35 rfl rfl ?_
      refine w_aload_n ta_35 rfl rfl ?_
      refine w_getI 2 ta_35 rfl rfl rfl ?_
      refine w_iload_n ta_35 rfl rfl ?_
      refine w_isub ta_35 rfl ?_
      refine w_iconst ta_35 rfl ?_
      refine w_idiv ta_35 rfl (by omega) (by omega) (by omega) (by omega) ?_
      refine w_min ta_35 rfl ⟨by omega, by omega⟩ ⟨by omega, by omega⟩ (Nat.le_of_ble_eq_true rfl) ?_
      refine w_iret ta_35 rfl (Or.inl rfl) ?_
      refine ⟨_, rfl, ?_, rfl⟩
      rw [if_pos (show M2 72 1 = l ∧ 0 ≤ f ∧ f < M2 72 2 by omega)]
    · refine w_iconst ta_35 rfl ?_
      refine w_iret ta_35 rfl (Or.inl rfl) ?_
      exact ⟨_, rfl, by rw [if_neg (by omega)], rfl⟩
set_option maxHeartbeats 4000000 in
set_option maxRecDepth 20000 in
theorem c_faultAs_0 (D : Nat) (M : Mem) (l0 : -1 ≤ M 72 1) (l1 : M 72 1 ≤ 2) (z0 : 0 ≤ M 72 2) (z1 : M 72 2 ≤ 40) (l : Int) (hl : inR l) : CI D 36 [.inr (.inr 72), .inl l] M (fun w M' => w = (if M 72 1 = -1 then 1 else if M 72 1 = l then 2 else 3) ∧ M' = M) := by
  refine mk_C mt_36 rfl (Nat.le_of_ble_eq_true rfl) (L := [some _, some _]) rfl ?_
  obtain ⟨l2, l3⟩ := id hl
  refine w_aload_n ta_36 rfl rfl ?_
  refine w_getI 1 ta_36 rfl rfl rfl ?_
  refine w_iconst ta_36 rfl ?_
  refine w_icmp_ne ta_36 rfl ⟨by omega, by omega⟩ ⟨by omega, by omega⟩ (fun h5 => ?_) (fun h5 => ?_)
  · refine w_aload_n ta_36 rfl rfl ?_
    refine w_getI 1 ta_36 rfl rfl rfl ?_
    refine w_iload_n ta_36 rfl rfl ?_
    refine w_icmp_ne ta_36 rfl ⟨by omega, by omega⟩ ⟨by omega, by omega⟩ (fun h15 => ?_) (fun h15 => ?_)
    · refine w_iconst ta_36 rfl ?_
      refine w_iret ta_36 rfl (Or.inl rfl) ?_
      refine ⟨_, rfl, ?_, rfl⟩
      first
        | rw [if_pos (by omega)]
        | rw [if_neg (by omega), if_pos (by omega)]
        | rw [if_neg (by omega), if_neg (by omega)]
    · refine w_iconst ta_36 rfl ?_
      refine w_goto ta_36 rfl ?_
      refine w_iret ta_36 rfl (Or.inl rfl) ?_
      refine ⟨_, rfl, ?_, rfl⟩
      first
        | rw [if_pos (by omega)]
        | rw [if_neg (by omega), if_pos (by omega)]
        | rw [if_neg (by omega), if_neg (by omega)]
  · refine w_iconst ta_36 rfl ?_
    refine w_iret ta_36 rfl (Or.inl rfl) ?_
    refine ⟨_, rfl, ?_, rfl⟩
    first
      | rw [if_pos (by omega)]
      | rw [if_neg (by omega), if_pos (by omega)]
      | rw [if_neg (by omega), if_neg (by omega)]
set_option maxHeartbeats 4000000 in
set_option maxRecDepth 20000 in
theorem c_renew_1 (D : Nat) (M : Mem) (l n : Int) : CV (D + 1) 33 [.inr (.inr 74), .inl l, .inl n] M (fun M' => M' = setC (wr (wr M 74 1 l) 74 2 n) 75 (filF (M 75) 0 40)) := by
  refine mk_C mt_33 rfl (Nat.le_of_ble_eq_true rfl) (L := [some _, some _, some _]) rfl ?_
  refine w_aload_n ta_33 rfl rfl ?_
  refine w_iload_n ta_33 rfl rfl ?_
  refine w_putI 1 ta_33 rfl rfl rfl ?_
  refine w_aload_n ta_33 rfl rfl ?_
  refine w_iload_n ta_33 rfl rfl ?_
  refine w_putI 2 ta_33 rfl rfl rfl ?_
  refine w_aload_n ta_33 rfl rfl ?_
  refine w_getR ta_33 rfl rfl ?_
  refine w_iconst ta_33 rfl ?_
  refine w_cV [_, _] _ ta_33 rfl rfl rfl mt_196 rfl rfl rfl rfl (Nat.le_of_ble_eq_true rfl) (fun q => by cases q) rfl (c_fill _ 75 40 0 _ rfl (by decide)) ?_
  rintro M2 rfl
  refine w_vret ta_33 rfl ?_
  exact ⟨rfl, rfl⟩
set_option maxHeartbeats 4000000 in
set_option maxRecDepth 20000 in
theorem c_putAt_1 (D : Nat) (M : Mem) (l0 : -1 ≤ M 74 1) (l1 : M 74 1 ≤ 2) (z0 : 0 ≤ M 74 2) (z1 : M 74 2 ≤ 40) (i v : Int) (hi : inR i) : CI (D + 1) 34 [.inr (.inr 74), .inl i, .inl v] M (fun w M' => (M 74 1 = -1 ∧ w = 1 ∧ M' = M) ∨ (M 74 1 ≠ -1 ∧ ¬ (0 ≤ i ∧ i < M 74 2) ∧ w = 2 ∧ M' = M) ∨ (M 74 1 ≠ -1 ∧ (0 ≤ i ∧ i < M 74 2) ∧ w = 0 ∧ M' = wr M 75 i (if M 74 1 = 0 then v.bmod 256 else if M 74 1 = 1 then v.bmod 65536 else v))) := by
  refine mk_C mt_34 rfl (Nat.le_of_ble_eq_true rfl) (L := [some _, some _, some _]) rfl ?_
  refine w_aload_n ta_34 rfl rfl ?_
  refine w_getI 1 ta_34 rfl rfl rfl ?_
  refine w_iconst ta_34 rfl ?_
  refine w_icmp_ne ta_34 rfl ⟨by omega, by omega⟩ ⟨by omega, by omega⟩ (fun h5 => ?_) (fun h5 => ?_)
  · refine w_iload_n ta_34 rfl rfl ?_
    refine w_iconst ta_34 rfl ?_
    refine w_aload_n ta_34 rfl rfl ?_
    refine w_getI 2 ta_34 rfl rfl rfl ?_
    refine w_iconst ta_34 rfl ?_
    refine w_isub ta_34 rfl ?_
    refine w_cI [_, _, _] _ ta_34 rfl rfl rfl mt_89 rfl rfl rfl rfl (Nat.le_of_ble_eq_true rfl) (fun q => by cases q) rfl (c_win _ i _ _ M hi (by constructor <;> omega) (by constructor <;> omega)) ?_
    rintro vw M2 ⟨hvw, rfl⟩
    refine w_if_ne ta_34 rfl ⟨by omega, by omega⟩ (fun h21 => ?_) (fun h21 => ?_)
    · refine w_aload_n ta_34 rfl rfl ?_
      refine w_getR ta_34 rfl rfl ?_
      refine w_iload_n ta_34 rfl rfl ?_
      refine w_aload_n ta_34 rfl rfl ?_
      refine w_getI 1 ta_34 rfl rfl rfl ?_
      refine w_if_ne ta_34 rfl ⟨by omega, by omega⟩ (fun h35 => ?_) (fun h35 => ?_)
      · refine w_aload_n ta_34 rfl rfl ?_
        refine w_getI 1 ta_34 rfl rfl rfl ?_
        refine w_iconst ta_34 rfl ?_
        refine w_icmp_ne ta_34 rfl ⟨by omega, by omega⟩ ⟨by omega, by omega⟩ (fun h48 => ?_) (fun h48 => ?_)
        · refine w_iload_n ta_34 rfl rfl ?_
          refine w_iastore ta_34 rfl rfl (by omega) (by omega) (by omega) ?_
          refine w_iconst ta_34 rfl ?_
          refine w_iret ta_34 rfl (Or.inl rfl) ?_
          refine ⟨_, rfl, Or.inr (Or.inr ⟨by omega, by omega, rfl, ?_⟩)⟩
          first
            | rw [if_pos (by omega)]
            | rw [if_neg (by omega), if_pos (by omega)]
            | rw [if_neg (by omega), if_neg (by omega)]
        · refine w_iload_n ta_34 rfl rfl ?_
          refine w_i2s ta_34 rfl ?_
          refine w_goto ta_34 rfl ?_
          refine w_iastore ta_34 rfl rfl (by omega) (by omega) (by omega) ?_
          refine w_iconst ta_34 rfl ?_
          refine w_iret ta_34 rfl (Or.inl rfl) ?_
          refine ⟨_, rfl, Or.inr (Or.inr ⟨by omega, by omega, rfl, ?_⟩)⟩
          first
            | rw [if_pos (by omega)]
            | rw [if_neg (by omega), if_pos (by omega)]
            | rw [if_neg (by omega), if_neg (by omega)]
      · refine w_iload_n ta_34 rfl rfl ?_
        refine w_i2b ta_34 rfl ?_
        refine w_goto ta_34 rfl ?_
        refine w_iastore ta_34 rfl rfl (by omega) (by omega) (by omega) ?_
        refine w_iconst ta_34 rfl ?_
        refine w_iret ta_34 rfl (Or.inl rfl) ?_
        refine ⟨_, rfl, Or.inr (Or.inr ⟨by omega, by omega, rfl, ?_⟩)⟩
        first
          | rw [if_pos (by omega)]
          | rw [if_neg (by omega), if_pos (by omega)]
          | rw [if_neg (by omega), if_neg (by omega)]
    · refine w_iconst ta_34 rfl ?_
      refine w_iret ta_34 rfl (Or.inl rfl) ?_
      exact ⟨_, rfl, Or.inr (Or.inl ⟨by omega, by omega, rfl, rfl⟩)⟩
  · refine w_iconst ta_34 rfl ?_
    refine w_iret ta_34 rfl (Or.inl rfl) ?_
    exact ⟨_, rfl, Or.inl ⟨by omega, rfl, rfl⟩⟩
set_option maxHeartbeats 4000000 in
set_option maxRecDepth 20000 in
theorem c_wholePairs_1 (D : Nat) (M : Mem) (l0 : -1 ≤ M 74 1) (l1 : M 74 1 ≤ 2) (z0 : 0 ≤ M 74 2) (z1 : M 74 2 ≤ 40) (l f n : Int) (hl : inR l) (hf : inR f) (hn : inR n) : CI (D + 4) 35 [.inr (.inr 74), .inl l, .inl f, .inl n] M (fun w M' => w = (if M 74 1 = l ∧ 0 ≤ f ∧ f < M 74 2 then (if (M 74 2 - f) / 2 < n then (M 74 2 - f) / 2 else n) else 0) ∧ M' = M) := by
  refine mk_C mt_35 rfl (Nat.le_of_ble_eq_true rfl) (L := [some _, some _, some _, some _]) rfl ?_
  obtain ⟨l2, l3⟩ := id hl
  obtain ⟨f2, f3⟩ := id hf
  obtain ⟨n2, n3⟩ := id hn
  refine w_aload_n ta_35 rfl rfl ?_
  refine w_getI 1 ta_35 rfl rfl rfl ?_
  refine w_iload_n ta_35 rfl rfl ?_
  refine w_icmp_ne ta_35 rfl ⟨by omega, by omega⟩ ⟨by omega, by omega⟩ (fun h5 => ?_) (fun h5 => ?_)
  · refine w_iconst ta_35 rfl ?_
    refine w_iret ta_35 rfl (Or.inl rfl) ?_
    exact ⟨_, rfl, by rw [if_neg (by omega)], rfl⟩
  · refine w_iload_n ta_35 rfl rfl ?_
    refine w_iconst ta_35 rfl ?_
    refine w_aload_n ta_35 rfl rfl ?_
    refine w_getI 2 ta_35 rfl rfl rfl ?_
    refine w_iconst ta_35 rfl ?_
    refine w_isub ta_35 rfl ?_
    refine w_cI [_, _, _] _ ta_35 rfl rfl rfl mt_89 rfl rfl rfl rfl (Nat.le_of_ble_eq_true rfl) (fun q => by cases q) rfl (c_win _ f _ _ M hf (by constructor <;> omega) (by constructor <;> omega)) ?_
    rintro vw M2 ⟨hvw, rfl⟩
    refine w_if_ne ta_35 rfl ⟨by omega, by omega⟩ (fun h19 => ?_) (fun h19 => ?_)
    · refine w_iload_n ta_35 rfl rfl ?_
      refine w_aload_n ta_35 rfl rfl ?_
      refine w_getI 2 ta_35 rfl rfl rfl ?_
      refine w_iload_n ta_35 rfl rfl ?_
      refine w_isub ta_35 rfl ?_
      refine w_iconst ta_35 rfl ?_
      refine w_idiv ta_35 rfl (by omega) (by omega) (by omega) (by omega) ?_
      refine w_min ta_35 rfl ⟨by omega, by omega⟩ ⟨by omega, by omega⟩ (Nat.le_of_ble_eq_true rfl) ?_
      refine w_iret ta_35 rfl (Or.inl rfl) ?_
      refine ⟨_, rfl, ?_, rfl⟩
      rw [if_pos (show M2 74 1 = l ∧ 0 ≤ f ∧ f < M2 74 2 by omega)]
    · refine w_iconst ta_35 rfl ?_
      refine w_iret ta_35 rfl (Or.inl rfl) ?_
      exact ⟨_, rfl, by rw [if_neg (by omega)], rfl⟩
set_option maxHeartbeats 4000000 in
set_option maxRecDepth 20000 in
theorem c_faultAs_1 (D : Nat) (M : Mem) (l0 : -1 ≤ M 74 1) (l1 : M 74 1 ≤ 2) (z0 : 0 ≤ M 74 2) (z1 : M 74 2 ≤ 40) (l : Int) (hl : inR l) : CI D 36 [.inr (.inr 74), .inl l] M (fun w M' => w = (if M 74 1 = -1 then 1 else if M 74 1 = l then 2 else 3) ∧ M' = M) := by
  refine mk_C mt_36 rfl (Nat.le_of_ble_eq_true rfl) (L := [some _, some _]) rfl ?_
  obtain ⟨l2, l3⟩ := id hl
  refine w_aload_n ta_36 rfl rfl ?_
  refine w_getI 1 ta_36 rfl rfl rfl ?_
  refine w_iconst ta_36 rfl ?_
  refine w_icmp_ne ta_36 rfl ⟨by omega, by omega⟩ ⟨by omega, by omega⟩ (fun h5 => ?_) (fun h5 => ?_)
  · refine w_aload_n ta_36 rfl rfl ?_
    refine w_getI 1 ta_36 rfl rfl rfl ?_
    refine w_iload_n ta_36 rfl rfl ?_
    refine w_icmp_ne ta_36 rfl ⟨by omega, by omega⟩ ⟨by omega, by omega⟩ (fun h15 => ?_) (fun h15 => ?_)
    · refine w_iconst ta_36 rfl ?_
      refine w_iret ta_36 rfl (Or.inl rfl) ?_
      refine ⟨_, rfl, ?_, rfl⟩
      first
        | rw [if_pos (by omega)]
        | rw [if_neg (by omega), if_pos (by omega)]
        | rw [if_neg (by omega), if_neg (by omega)]
    · refine w_iconst ta_36 rfl ?_
      refine w_goto ta_36 rfl ?_
      refine w_iret ta_36 rfl (Or.inl rfl) ?_
      refine ⟨_, rfl, ?_, rfl⟩
      first
        | rw [if_pos (by omega)]
        | rw [if_neg (by omega), if_pos (by omega)]
        | rw [if_neg (by omega), if_neg (by omega)]
  · refine w_iconst ta_36 rfl ?_
    refine w_iret ta_36 rfl (Or.inl rfl) ?_
    refine ⟨_, rfl, ?_, rfl⟩
    first
      | rw [if_pos (by omega)]
      | rw [if_neg (by omega), if_pos (by omega)]
      | rw [if_neg (by omega), if_neg (by omega)]
set_option maxHeartbeats 4000000 in
set_option maxRecDepth 20000 in
theorem c_renew_2 (D : Nat) (M : Mem) (l n : Int) : CV (D + 1) 33 [.inr (.inr 76), .inl l, .inl n] M (fun M' => M' = setC (wr (wr M 76 1 l) 76 2 n) 77 (filF (M 77) 0 40)) := by
  refine mk_C mt_33 rfl (Nat.le_of_ble_eq_true rfl) (L := [some _, some _, some _]) rfl ?_
  refine w_aload_n ta_33 rfl rfl ?_
  refine w_iload_n ta_33 rfl rfl ?_
  refine w_putI 1 ta_33 rfl rfl rfl ?_
  refine w_aload_n ta_33 rfl rfl ?_
  refine w_iload_n ta_33 rfl rfl ?_
  refine w_putI 2 ta_33 rfl rfl rfl ?_
  refine w_aload_n ta_33 rfl rfl ?_
  refine w_getR ta_33 rfl rfl ?_
  refine w_iconst ta_33 rfl ?_
  refine w_cV [_, _] _ ta_33 rfl rfl rfl mt_196 rfl rfl rfl rfl (Nat.le_of_ble_eq_true rfl) (fun q => by cases q) rfl (c_fill _ 77 40 0 _ rfl (by decide)) ?_
  rintro M2 rfl
  refine w_vret ta_33 rfl ?_
  exact ⟨rfl, rfl⟩
set_option maxHeartbeats 4000000 in
set_option maxRecDepth 20000 in
theorem c_putAt_2 (D : Nat) (M : Mem) (l0 : -1 ≤ M 76 1) (l1 : M 76 1 ≤ 2) (z0 : 0 ≤ M 76 2) (z1 : M 76 2 ≤ 40) (i v : Int) (hi : inR i) : CI (D + 1) 34 [.inr (.inr 76), .inl i, .inl v] M (fun w M' => (M 76 1 = -1 ∧ w = 1 ∧ M' = M) ∨ (M 76 1 ≠ -1 ∧ ¬ (0 ≤ i ∧ i < M 76 2) ∧ w = 2 ∧ M' = M) ∨ (M 76 1 ≠ -1 ∧ (0 ≤ i ∧ i < M 76 2) ∧ w = 0 ∧ M' = wr M 77 i (if M 76 1 = 0 then v.bmod 256 else if M 76 1 = 1 then v.bmod 65536 else v))) := by
  refine mk_C mt_34 rfl (Nat.le_of_ble_eq_true rfl) (L := [some _, some _, some _]) rfl ?_
  refine w_aload_n ta_34 rfl rfl ?_
  refine w_getI 1 ta_34 rfl rfl rfl ?_
  refine w_iconst ta_34 rfl ?_
  refine w_icmp_ne ta_34 rfl ⟨by omega, by omega⟩ ⟨by omega, by omega⟩ (fun h5 => ?_) (fun h5 => ?_)
  · refine w_iload_n ta_34 rfl rfl ?_
    refine w_iconst ta_34 rfl ?_
    refine w_aload_n ta_34 rfl rfl ?_
    refine w_getI 2 ta_34 rfl rfl rfl ?_
    refine w_iconst ta_34 rfl ?_
    refine w_isub ta_34 rfl ?_
    refine w_cI [_, _, _] _ ta_34 rfl rfl rfl mt_89 rfl rfl rfl rfl (Nat.le_of_ble_eq_true rfl) (fun q => by cases q) rfl (c_win _ i _ _ M hi (by constructor <;> omega) (by constructor <;> omega)) ?_
    rintro vw M2 ⟨hvw, rfl⟩
    refine w_if_ne ta_34 rfl ⟨by omega, by omega⟩ (fun h21 => ?_) (fun h21 => ?_)
    · refine w_aload_n ta_34 rfl rfl ?_
      refine w_getR ta_34 rfl rfl ?_
      refine w_iload_n ta_34 rfl rfl ?_
      refine w_aload_n ta_34 rfl rfl ?_
      refine w_getI 1 ta_34 rfl rfl rfl ?_
      refine w_if_ne ta_34 rfl ⟨by omega, by omega⟩ (fun h35 => ?_) (fun h35 => ?_)
      · refine w_aload_n ta_34 rfl rfl ?_
        refine w_getI 1 ta_34 rfl rfl rfl ?_
        refine w_iconst ta_34 rfl ?_
        refine w_icmp_ne ta_34 rfl ⟨by omega, by omega⟩ ⟨by omega, by omega⟩ (fun h48 => ?_) (fun h48 => ?_)
        · refine w_iload_n ta_34 rfl rfl ?_
          refine w_iastore ta_34 rfl rfl (by omega) (by omega) (by omega) ?_
          refine w_iconst ta_34 rfl ?_
          refine w_iret ta_34 rfl (Or.inl rfl) ?_
          refine ⟨_, rfl, Or.inr (Or.inr ⟨by omega, by omega, rfl, ?_⟩)⟩
          first
            | rw [if_pos (by omega)]
            | rw [if_neg (by omega), if_pos (by omega)]
            | rw [if_neg (by omega), if_neg (by omega)]
        · refine w_iload_n ta_34 rfl rfl ?_
          refine w_i2s ta_34 rfl ?_
          refine w_goto ta_34 rfl ?_
          refine w_iastore ta_34 rfl rfl (by omega) (by omega) (by omega) ?_
          refine w_iconst ta_34 rfl ?_
          refine w_iret ta_34 rfl (Or.inl rfl) ?_
          refine ⟨_, rfl, Or.inr (Or.inr ⟨by omega, by omega, rfl, ?_⟩)⟩
          first
            | rw [if_pos (by omega)]
            | rw [if_neg (by omega), if_pos (by omega)]
            | rw [if_neg (by omega), if_neg (by omega)]
      · refine w_iload_n ta_34 rfl rfl ?_
        refine w_i2b ta_34 rfl ?_
        refine w_goto ta_34 rfl ?_
        refine w_iastore ta_34 rfl rfl (by omega) (by omega) (by omega) ?_
        refine w_iconst ta_34 rfl ?_
        refine w_iret ta_34 rfl (Or.inl rfl) ?_
        refine ⟨_, rfl, Or.inr (Or.inr ⟨by omega, by omega, rfl, ?_⟩)⟩
        first
          | rw [if_pos (by omega)]
          | rw [if_neg (by omega), if_pos (by omega)]
          | rw [if_neg (by omega), if_neg (by omega)]
    · refine w_iconst ta_34 rfl ?_
      refine w_iret ta_34 rfl (Or.inl rfl) ?_
      exact ⟨_, rfl, Or.inr (Or.inl ⟨by omega, by omega, rfl, rfl⟩)⟩
  · refine w_iconst ta_34 rfl ?_
    refine w_iret ta_34 rfl (Or.inl rfl) ?_
    exact ⟨_, rfl, Or.inl ⟨by omega, rfl, rfl⟩⟩
set_option maxHeartbeats 4000000 in
set_option maxRecDepth 20000 in
theorem c_wholePairs_2 (D : Nat) (M : Mem) (l0 : -1 ≤ M 76 1) (l1 : M 76 1 ≤ 2) (z0 : 0 ≤ M 76 2) (z1 : M 76 2 ≤ 40) (l f n : Int) (hl : inR l) (hf : inR f) (hn : inR n) : CI (D + 4) 35 [.inr (.inr 76), .inl l, .inl f, .inl n] M (fun w M' => w = (if M 76 1 = l ∧ 0 ≤ f ∧ f < M 76 2 then (if (M 76 2 - f) / 2 < n then (M 76 2 - f) / 2 else n) else 0) ∧ M' = M) := by
  refine mk_C mt_35 rfl (Nat.le_of_ble_eq_true rfl) (L := [some _, some _, some _, some _]) rfl ?_
  obtain ⟨l2, l3⟩ := id hl
  obtain ⟨f2, f3⟩ := id hf
  obtain ⟨n2, n3⟩ := id hn
  refine w_aload_n ta_35 rfl rfl ?_
  refine w_getI 1 ta_35 rfl rfl rfl ?_
  refine w_iload_n ta_35 rfl rfl ?_
  refine w_icmp_ne ta_35 rfl ⟨by omega, by omega⟩ ⟨by omega, by omega⟩ (fun h5 => ?_) (fun h5 => ?_)
  · refine w_iconst ta_35 rfl ?_
    refine w_iret ta_35 rfl (Or.inl rfl) ?_
    exact ⟨_, rfl, by rw [if_neg (by omega)], rfl⟩
  · refine w_iload_n ta_35 rfl rfl ?_
    refine w_iconst ta_35 rfl ?_
    refine w_aload_n ta_35 rfl rfl ?_
    refine w_getI 2 ta_35 rfl rfl rfl ?_
    refine w_iconst ta_35 rfl ?_
    refine w_isub ta_35 rfl ?_
    refine w_cI [_, _, _] _ ta_35 rfl rfl rfl mt_89 rfl rfl rfl rfl (Nat.le_of_ble_eq_true rfl) (fun q => by cases q) rfl (c_win _ f _ _ M hf (by constructor <;> omega) (by constructor <;> omega)) ?_
    rintro vw M2 ⟨hvw, rfl⟩
    refine w_if_ne ta_35 rfl ⟨by omega, by omega⟩ (fun h19 => ?_) (fun h19 => ?_)
    · refine w_iload_n ta_35 rfl rfl ?_
      refine w_aload_n ta_35 rfl rfl ?_
      refine w_getI 2 ta_35 rfl rfl rfl ?_
      refine w_iload_n ta_35 rfl rfl ?_
      refine w_isub ta_35 rfl ?_
      refine w_iconst ta_35 rfl ?_
      refine w_idiv ta_35 rfl (by omega) (by omega) (by omega) (by omega) ?_
      refine w_min ta_35 rfl ⟨by omega, by omega⟩ ⟨by omega, by omega⟩ (Nat.le_of_ble_eq_true rfl) ?_
      refine w_iret ta_35 rfl (Or.inl rfl) ?_
      refine ⟨_, rfl, ?_, rfl⟩
      rw [if_pos (show M2 76 1 = l ∧ 0 ≤ f ∧ f < M2 76 2 by omega)]
    · refine w_iconst ta_35 rfl ?_
      refine w_iret ta_35 rfl (Or.inl rfl) ?_
      exact ⟨_, rfl, by rw [if_neg (by omega)], rfl⟩
set_option maxHeartbeats 4000000 in
set_option maxRecDepth 20000 in
theorem c_faultAs_2 (D : Nat) (M : Mem) (l0 : -1 ≤ M 76 1) (l1 : M 76 1 ≤ 2) (z0 : 0 ≤ M 76 2) (z1 : M 76 2 ≤ 40) (l : Int) (hl : inR l) : CI D 36 [.inr (.inr 76), .inl l] M (fun w M' => w = (if M 76 1 = -1 then 1 else if M 76 1 = l then 2 else 3) ∧ M' = M) := by
  refine mk_C mt_36 rfl (Nat.le_of_ble_eq_true rfl) (L := [some _, some _]) rfl ?_
  obtain ⟨l2, l3⟩ := id hl
  refine w_aload_n ta_36 rfl rfl ?_
  refine w_getI 1 ta_36 rfl rfl rfl ?_
  refine w_iconst ta_36 rfl ?_
  refine w_icmp_ne ta_36 rfl ⟨by omega, by omega⟩ ⟨by omega, by omega⟩ (fun h5 => ?_) (fun h5 => ?_)
  · refine w_aload_n ta_36 rfl rfl ?_
    refine w_getI 1 ta_36 rfl rfl rfl ?_
    refine w_iload_n ta_36 rfl rfl ?_
    refine w_icmp_ne ta_36 rfl ⟨by omega, by omega⟩ ⟨by omega, by omega⟩ (fun h15 => ?_) (fun h15 => ?_)
    · refine w_iconst ta_36 rfl ?_
      refine w_iret ta_36 rfl (Or.inl rfl) ?_
      refine ⟨_, rfl, ?_, rfl⟩
      first
        | rw [if_pos (by omega)]
        | rw [if_neg (by omega), if_pos (by omega)]
        | rw [if_neg (by omega), if_neg (by omega)]
    · refine w_iconst ta_36 rfl ?_
      refine w_goto ta_36 rfl ?_
      refine w_iret ta_36 rfl (Or.inl rfl) ?_
      refine ⟨_, rfl, ?_, rfl⟩
      first
        | rw [if_pos (by omega)]
        | rw [if_neg (by omega), if_pos (by omega)]
        | rw [if_neg (by omega), if_neg (by omega)]
  · refine w_iconst ta_36 rfl ?_
    refine w_iret ta_36 rfl (Or.inl rfl) ?_
    refine ⟨_, rfl, ?_, rfl⟩
    first
      | rw [if_pos (by omega)]
      | rw [if_neg (by omega), if_pos (by omega)]
      | rw [if_neg (by omega), if_neg (by omega)]
set_option maxHeartbeats 4000000 in
set_option maxRecDepth 20000 in
theorem c_renew_3 (D : Nat) (M : Mem) (l n : Int) : CV (D + 1) 33 [.inr (.inr 78), .inl l, .inl n] M (fun M' => M' = setC (wr (wr M 78 1 l) 78 2 n) 79 (filF (M 79) 0 40)) := by
  refine mk_C mt_33 rfl (Nat.le_of_ble_eq_true rfl) (L := [some _, some _, some _]) rfl ?_
  refine w_aload_n ta_33 rfl rfl ?_
  refine w_iload_n ta_33 rfl rfl ?_
  refine w_putI 1 ta_33 rfl rfl rfl ?_
  refine w_aload_n ta_33 rfl rfl ?_
  refine w_iload_n ta_33 rfl rfl ?_
  refine w_putI 2 ta_33 rfl rfl rfl ?_
  refine w_aload_n ta_33 rfl rfl ?_
  refine w_getR ta_33 rfl rfl ?_
  refine w_iconst ta_33 rfl ?_
  refine w_cV [_, _] _ ta_33 rfl rfl rfl mt_196 rfl rfl rfl rfl (Nat.le_of_ble_eq_true rfl) (fun q => by cases q) rfl (c_fill _ 79 40 0 _ rfl (by decide)) ?_
  rintro M2 rfl
  refine w_vret ta_33 rfl ?_
  exact ⟨rfl, rfl⟩
set_option maxHeartbeats 4000000 in
set_option maxRecDepth 20000 in
theorem c_putAt_3 (D : Nat) (M : Mem) (l0 : -1 ≤ M 78 1) (l1 : M 78 1 ≤ 2) (z0 : 0 ≤ M 78 2) (z1 : M 78 2 ≤ 40) (i v : Int) (hi : inR i) : CI (D + 1) 34 [.inr (.inr 78), .inl i, .inl v] M (fun w M' => (M 78 1 = -1 ∧ w = 1 ∧ M' = M) ∨ (M 78 1 ≠ -1 ∧ ¬ (0 ≤ i ∧ i < M 78 2) ∧ w = 2 ∧ M' = M) ∨ (M 78 1 ≠ -1 ∧ (0 ≤ i ∧ i < M 78 2) ∧ w = 0 ∧ M' = wr M 79 i (if M 78 1 = 0 then v.bmod 256 else if M 78 1 = 1 then v.bmod 65536 else v))) := by
  refine mk_C mt_34 rfl (Nat.le_of_ble_eq_true rfl) (L := [some _, some _, some _]) rfl ?_
  refine w_aload_n ta_34 rfl rfl ?_
  refine w_getI 1 ta_34 rfl rfl rfl ?_
  refine w_iconst ta_34 rfl ?_
  refine w_icmp_ne ta_34 rfl ⟨by omega, by omega⟩ ⟨by omega, by omega⟩ (fun h5 => ?_) (fun h5 => ?_)
  · refine w_iload_n ta_34 rfl rfl ?_
    refine w_iconst ta_34 rfl ?_
    refine w_aload_n ta_34 rfl rfl ?_
    refine w_getI 2 ta_34 rfl rfl rfl ?_
    refine w_iconst ta_34 rfl ?_
    refine w_isub ta_34 rfl ?_
    refine w_cI [_, _, _] _ ta_34 rfl rfl rfl mt_89 rfl rfl rfl rfl (Nat.le_of_ble_eq_true rfl) (fun q => by cases q) rfl (c_win _ i _ _ M hi (by constructor <;> omega) (by constructor <;> omega)) ?_
    rintro vw M2 ⟨hvw, rfl⟩
    refine w_if_ne ta_34 rfl ⟨by omega, by omega⟩ (fun h21 => ?_) (fun h21 => ?_)
    · refine w_aload_n ta_34 rfl rfl ?_
      refine w_getR ta_34 rfl rfl ?_
      refine w_iload_n ta_34 rfl rfl ?_
      refine w_aload_n ta_34 rfl rfl ?_
      refine w_getI 1 ta_34 rfl rfl rfl ?_
      refine w_if_ne ta_34 rfl ⟨by omega, by omega⟩ (fun h35 => ?_) (fun h35 => ?_)
      · refine w_aload_n ta_34 rfl rfl ?_
        refine w_getI 1 ta_34 rfl rfl rfl ?_
        refine w_iconst ta_34 rfl ?_
        refine w_icmp_ne ta_34 rfl ⟨by omega, by omega⟩ ⟨by omega, by omega⟩ (fun h48 => ?_) (fun h48 => ?_)
        · refine w_iload_n ta_34 rfl rfl ?_
          refine w_iastore ta_34 rfl rfl (by omega) (by omega) (by omega) ?_
          refine w_iconst ta_34 rfl ?_
          refine w_iret ta_34 rfl (Or.inl rfl) ?_
          refine ⟨_, rfl, Or.inr (Or.inr ⟨by omega, by omega, rfl, ?_⟩)⟩
          first
            | rw [if_pos (by omega)]
            | rw [if_neg (by omega), if_pos (by omega)]
            | rw [if_neg (by omega), if_neg (by omega)]
        · refine w_iload_n ta_34 rfl rfl ?_
          refine w_i2s ta_34 rfl ?_
          refine w_goto ta_34 rfl ?_
          refine w_iastore ta_34 rfl rfl (by omega) (by omega) (by omega) ?_
          refine w_iconst ta_34 rfl ?_
          refine w_iret ta_34 rfl (Or.inl rfl) ?_
          refine ⟨_, rfl, Or.inr (Or.inr ⟨by omega, by omega, rfl, ?_⟩)⟩
          first
            | rw [if_pos (by omega)]
            | rw [if_neg (by omega), if_pos (by omega)]
            | rw [if_neg (by omega), if_neg (by omega)]
      · refine w_iload_n ta_34 rfl rfl ?_
        refine w_i2b ta_34 rfl ?_
        refine w_goto ta_34 rfl ?_
        refine w_iastore ta_34 rfl rfl (by omega) (by omega) (by omega) ?_
        refine w_iconst ta_34 rfl ?_
        refine w_iret ta_34 rfl (Or.inl rfl) ?_
        refine ⟨_, rfl, Or.inr (Or.inr ⟨by omega, by omega, rfl, ?_⟩)⟩
        first
          | rw [if_pos (by omega)]
          | rw [if_neg (by omega), if_pos (by omega)]
          | rw [if_neg (by omega), if_neg (by omega)]
    · refine w_iconst ta_34 rfl ?_
      refine w_iret ta_34 rfl (Or.inl rfl) ?_
      exact ⟨_, rfl, Or.inr (Or.inl ⟨by omega, by omega, rfl, rfl⟩)⟩
  · refine w_iconst ta_34 rfl ?_
    refine w_iret ta_34 rfl (Or.inl rfl) ?_
    exact ⟨_, rfl, Or.inl ⟨by omega, rfl, rfl⟩⟩
set_option maxHeartbeats 4000000 in
set_option maxRecDepth 20000 in
theorem c_wholePairs_3 (D : Nat) (M : Mem) (l0 : -1 ≤ M 78 1) (l1 : M 78 1 ≤ 2) (z0 : 0 ≤ M 78 2) (z1 : M 78 2 ≤ 40) (l f n : Int) (hl : inR l) (hf : inR f) (hn : inR n) : CI (D + 4) 35 [.inr (.inr 78), .inl l, .inl f, .inl n] M (fun w M' => w = (if M 78 1 = l ∧ 0 ≤ f ∧ f < M 78 2 then (if (M 78 2 - f) / 2 < n then (M 78 2 - f) / 2 else n) else 0) ∧ M' = M) := by
  refine mk_C mt_35 rfl (Nat.le_of_ble_eq_true rfl) (L := [some _, some _, some _, some _]) rfl ?_
  obtain ⟨l2, l3⟩ := id hl
  obtain ⟨f2, f3⟩ := id hf
  obtain ⟨n2, n3⟩ := id hn
  refine w_aload_n ta_35 rfl rfl ?_
  refine w_getI 1 ta_35 rfl rfl rfl ?_
  refine w_iload_n ta_35 rfl rfl ?_
  refine w_icmp_ne ta_35 rfl ⟨by omega, by omega⟩ ⟨by omega, by omega⟩ (fun h5 => ?_) (fun h5 => ?_)
  · refine w_iconst ta_35 rfl ?_
    refine w_iret ta_35 rfl (Or.inl rfl) ?_
    exact ⟨_, rfl, by rw [if_neg (by omega)], rfl⟩
  · refine w_iload_n ta_35 rfl rfl ?_
    refine w_iconst ta_35 rfl ?_
    refine w_aload_n ta_35 rfl rfl ?_
    refine w_getI 2 ta_35 rfl rfl rfl ?_
    refine w_iconst ta_35 rfl ?_
    refine w_isub ta_35 rfl ?_
    refine w_cI [_, _, _] _ ta_35 rfl rfl rfl mt_89 rfl rfl rfl rfl (Nat.le_of_ble_eq_true rfl) (fun q => by cases q) rfl (c_win _ f _ _ M hf (by constructor <;> omega) (by constructor <;> omega)) ?_
    rintro vw M2 ⟨hvw, rfl⟩
    refine w_if_ne ta_35 rfl ⟨by omega, by omega⟩ (fun h19 => ?_) (fun h19 => ?_)
    · refine w_iload_n ta_35 rfl rfl ?_
      refine w_aload_n ta_35 rfl rfl ?_
      refine w_getI 2 ta_35 rfl rfl rfl ?_
      refine w_iload_n ta_35 rfl rfl ?_
      refine w_isub ta_35 rfl ?_
      refine w_iconst ta_35 rfl ?_
      refine w_idiv ta_35 rfl (by omega) (by omega) (by omega) (by omega) ?_
      refine w_min ta_35 rfl ⟨by omega, by omega⟩ ⟨by omega, by omega⟩ (Nat.le_of_ble_eq_true rfl) ?_
      refine w_iret ta_35 rfl (Or.inl rfl) ?_
      refine ⟨_, rfl, ?_, rfl⟩
      rw [if_pos (show M2 78 1 = l ∧ 0 ≤ f ∧ f < M2 78 2 by omega)]
    · refine w_iconst ta_35 rfl ?_
      refine w_iret ta_35 rfl (Or.inl rfl) ?_
      exact ⟨_, rfl, by rw [if_neg (by omega)], rfl⟩
set_option maxHeartbeats 4000000 in
set_option maxRecDepth 20000 in
theorem c_faultAs_3 (D : Nat) (M : Mem) (l0 : -1 ≤ M 78 1) (l1 : M 78 1 ≤ 2) (z0 : 0 ≤ M 78 2) (z1 : M 78 2 ≤ 40) (l : Int) (hl : inR l) : CI D 36 [.inr (.inr 78), .inl l] M (fun w M' => w = (if M 78 1 = -1 then 1 else if M 78 1 = l then 2 else 3) ∧ M' = M) := by
  refine mk_C mt_36 rfl (Nat.le_of_ble_eq_true rfl) (L := [some _, some _]) rfl ?_
  obtain ⟨l2, l3⟩ := id hl
  refine w_aload_n ta_36 rfl rfl ?_
  refine w_getI 1 ta_36 rfl rfl rfl ?_
  refine w_iconst ta_36 rfl ?_
  refine w_icmp_ne ta_36 rfl ⟨by omega, by omega⟩ ⟨by omega, by omega⟩ (fun h5 => ?_) (fun h5 => ?_)
  · refine w_aload_n ta_36 rfl rfl ?_
    refine w_getI 1 ta_36 rfl rfl rfl ?_
    refine w_iload_n ta_36 rfl rfl ?_
    refine w_icmp_ne ta_36 rfl ⟨by omega, by omega⟩ ⟨by omega, by omega⟩ (fun h15 => ?_) (fun h15 => ?_)
    · refine w_iconst ta_36 rfl ?_
      refine w_iret ta_36 rfl (Or.inl rfl) ?_
      refine ⟨_, rfl, ?_, rfl⟩
      first
        | rw [if_pos (by omega)]
        | rw [if_neg (by omega), if_pos (by omega)]
        | rw [if_neg (by omega), if_neg (by omega)]
    · refine w_iconst ta_36 rfl ?_
      refine w_goto ta_36 rfl ?_
      refine w_iret ta_36 rfl (Or.inl rfl) ?_
      refine ⟨_, rfl, ?_, rfl⟩
      first
        | rw [if_pos (by omega)]
        | rw [if_neg (by omega), if_pos (by omega)]
        | rw [if_neg (by omega), if_neg (by omega)]
  · refine w_iconst ta_36 rfl ?_
    refine w_iret ta_36 rfl (Or.inl rfl) ?_
    refine ⟨_, rfl, ?_, rfl⟩
    first
      | rw [if_pos (by omega)]
      | rw [if_neg (by omega), if_pos (by omega)]
      | rw [if_neg (by omega), if_neg (by omega)]
