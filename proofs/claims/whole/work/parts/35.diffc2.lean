/-! way 2, the class: from the first to the last -/
theorem pr5 {p g i : Int} (g0 : 0 ≤ g) (g1 : g < 5) : pr (fun i => 5 * i) (5 * p + g) i = (decide (i = p) && decide (g = 0)) := by
  rw [Bool.eq_iff_iff, pr_t, Bool.and_eq_true, decide_eq_true_iff, decide_eq_true_iff]
  show 5 * i = 5 * p + g ↔ _
  omega
theorem sP_st (ch : Int → Int) {n p g : Int} (p0 : 0 ≤ p) (p1 : p < n) (g0 : 0 ≤ g) (g1 : g < 5) : sP ch (pr (fun i => 5 * i) (5 * p + g)) n = if g = 0 then ch p else 0 := by
  by_cases e : g = 0
  · rw [if_pos e, ← sumZ_one (ch p) p0 p1]
    refine sumZ_cg (fun i i0 i1 => ?_)
    rw [pr5 g0 g1]
    by_cases z : i = p
    · rw [if_pos z, if_pos (by simp [e, z]), z]
    · rw [if_neg z, if_neg (by simp [z])]
  · rw [if_neg e]
    refine sP_0 (fun i i0 i1 => ?_)
    rw [pr5 g0 g1]
    simp [e]
theorem bP_st {n p g : Int} (p0 : 0 ≤ p) (p1 : p < n) (g0 : 0 ≤ g) (g1 : g < 5) : bP (pr (fun i => 5 * i) (5 * p + g)) n = if g = 0 then 1 * 2 ^ p.toNat else 0 := by
  rw [Int.one_mul]
  exact sP_st (fun i => 2 ^ i.toNat) p0 p1 g0 g1
set_option maxHeartbeats 4000000 in
set_option maxRecDepth 20000 in
theorem lp_beginD (D : Nat) (M : Mem) (hI : PkI 3 M) : ∀ i : Int, 0 ≤ i → i ≤ M 3 4 → ∀ Z, (∀ c, c < 30 ∨ c = 31 ∨ c = 48 ∨ 65 < c → Z c = M c) → Z 30 = upI (upI (upI (M 30) 5 (M 3 4)) 6 (M 3 5)) 4 0 → (∀ p, 0 ≤ p → p < i → Z 65 p = 0 ∧ ∀ g, 0 ≤ g → g < 5 → Z (32 + p.toNat) g = (if g = 0 then M 4 p else 0) ∧ Z (49 + p.toNat) g = (if g = 0 then 1 * 2 ^ p.toNat else 0)) → Wp (D + 1) 5 (23, [some (.inr (.inr 30)), some (.inr (.inr 3)), some (.inl i)], [], Z) (fun r M' => r = none ∧ (∀ c, c < 30 ∨ c = 31 ∨ c = 48 ∨ 65 < c → M' c = M c) ∧ M' 30 = upI (upI (upI (M 30) 5 (M 3 4)) 6 (M 3 5)) 4 0 ∧ (∀ p, 0 ≤ p → p < M 3 4 → M' 65 p = 0 ∧ ∀ g, 0 ≤ g → g < 5 → M' (32 + p.toNat) g = (if g = 0 then M 4 p else 0) ∧ M' (49 + p.toNat) g = (if g = 0 then 1 * 2 ^ p.toNat else 0))) := by
  obtain ⟨n0, n1, k0, k1, f0, f1, r0, r1, s0, s1, hA⟩ := pkd_3 hI
  refine loopZ (M 3 4) ?_
  intro i h0 h1 ih Z hF e30 hR
  refine w_iload_n ta_5 rfl rfl ?_
  refine w_aload_n ta_5 rfl rfl ?_
  refine w_getIv 5 (v := M 3 4) ta_5 rfl rfl rfl (by rw [e30]; rfl) ?_
  refine w_icmp_ge ta_5 rfl ⟨by omega, by omega⟩ ⟨by omega, by omega⟩ (fun h28 => ?_) (fun h28 => ?_)
  · refine w_vret ta_5 rfl ?_
    have e : i = M 3 4 := by omega
    subst e
    exact ⟨rfl, hF, e30, hR⟩
  · have i16 : i < 16 := by omega
    refine w_aload_n ta_5 rfl rfl ?_
    refine w_getR ta_5 rfl rfl ?_
    refine w_iload_n ta_5 rfl rfl ?_
    refine w_aaload (d := 32 + i.toNat) ta_5 rfl rfl (by omega) (by simp; omega) (by decide) (rw_h h0 i16).1 ?_
    refine w_iconst ta_5 rfl ?_
    refine w_cV [_, _] _ ta_5 rfl rfl rfl mt_196 rfl rfl rfl rfl (Nat.le_of_ble_eq_true rfl) (fun q => by cases q) rfl (c_fill _ (32 + i.toNat) 5 0 Z (rw_h h0 i16).2.2.1 (by decide)) ?_
    rintro Z1 hZ1
    refine w_aload_n ta_5 rfl rfl ?_
    refine w_getR ta_5 rfl rfl ?_
    refine w_iload_n ta_5 rfl rfl ?_
    refine w_aaload (d := 49 + i.toNat) ta_5 rfl rfl (by omega) (by simp; omega) (by decide) (rw_h h0 i16).2.1 ?_
    refine w_iconst ta_5 rfl ?_
    refine w_cV [_, _] _ ta_5 rfl rfl rfl mt_196 rfl rfl rfl rfl (Nat.le_of_ble_eq_true rfl) (fun q => by cases q) rfl (c_fill _ (49 + i.toNat) 5 0 Z1 (rw_h h0 i16).2.2.2 (by decide)) ?_
    rintro Z2 hZ2
    refine w_aload_n ta_5 rfl rfl ?_
    refine w_getR ta_5 rfl rfl ?_
    refine w_iload_n ta_5 rfl rfl ?_
    refine w_aaload (d := 32 + i.toNat) ta_5 rfl rfl (by omega) (by simp; omega) (by decide) (rw_h h0 i16).1 ?_
    refine w_iconst ta_5 rfl ?_
    refine w_aload_n ta_5 rfl rfl ?_
    refine w_getR ta_5 rfl rfl ?_
    refine w_iload_n ta_5 rfl rfl ?_
    refine w_ialoadv (v := M 4 i) ta_5 rfl rfl (by omega) (by omega) (by omega) (by rw [hZ2, sc_n _ _ (by omega), hZ1, sc_n _ _ (by omega), hF 4 (by omega)]) ?_
    refine w_iastore ta_5 rfl (rw_h h0 i16).2.2.1 (by decide) (by decide) (by omega) ?_
    refine w_aload_n ta_5 rfl rfl ?_
    refine w_getR ta_5 rfl rfl ?_
    refine w_iload_n ta_5 rfl rfl ?_
    refine w_aaload (d := 49 + i.toNat) ta_5 rfl rfl (by omega) (by simp; omega) (by decide) (rw_h h0 i16).2.1 ?_
    refine w_iconst ta_5 rfl ?_
    refine w_iconst ta_5 rfl ?_
    refine w_iload_n ta_5 rfl rfl ?_
    refine w_ishl ta_5 rfl (by omega) (by omega) ?_
    refine w_iastore ta_5 rfl (rw_h h0 i16).2.2.2 (by decide) (by decide) (by omega) ?_
    refine w_aload_n ta_5 rfl rfl ?_
    refine w_getR ta_5 rfl rfl ?_
    refine w_iload_n ta_5 rfl rfl ?_
    refine w_iconst ta_5 rfl ?_
    refine w_bastore ta_5 rfl rfl (by omega) (by omega) (by omega) (by omega) ?_
    refine w_iinc_2_3 ta_5 rfl rfl ?_
    refine w_goto ta_5 rfl ?_
    refine ih h28 _ (fun c hc => by rw [wr_n _ _ _ (by omega), wr_n _ _ _ (by omega), wr_n _ _ _ (by omega), hZ2, sc_n _ _ (by omega), hZ1, sc_n _ _ (by omega)]; exact hF c hc) (by rw [wr_n _ _ _ (by omega), wr_n _ _ _ (by omega), wr_n _ _ _ (by omega), hZ2, sc_n _ _ (by omega), hZ1, sc_n _ _ (by omega)]; exact e30) (fun p p0 p1 => ?_)
    by_cases e : p = i
    · subst e
      refine ⟨by rw [wr_s, up_s], fun g g0 g1 => ⟨?_, ?_⟩⟩
      · rw [wr_n _ _ _ (by omega), wr_n _ _ _ (by omega), wr_s, hZ2, sc_n _ _ (by omega), hZ1, sc_s]
        unfold upI filF
        split
        · rfl
        · exact if_pos ⟨g0, by omega⟩
      · rw [wr_n _ _ _ (by omega), wr_s, wr_n _ _ _ (by omega), hZ2, sc_s]
        unfold upI filF
        split
        · rfl
        · exact if_pos ⟨g0, by omega⟩
    · have q := hR p p0 (by omega)
      refine ⟨by rw [wr_s, up_n _ _ e, wr_n _ _ _ (by omega), wr_n _ _ _ (by omega), hZ2, sc_n _ _ (by omega), hZ1, sc_n _ _ (by omega)]; exact q.1, fun g g0 g1 => ⟨?_, ?_⟩⟩
      · rw [wr_n _ _ _ (by omega), wr_n _ _ _ (by omega), wr_n _ _ _ (by omega), hZ2, sc_n _ _ (by omega), hZ1, sc_n _ _ (by omega)]; exact (q.2 g g0 g1).1
      · rw [wr_n _ _ _ (by omega), wr_n _ _ _ (by omega), wr_n _ _ _ (by omega), hZ2, sc_n _ _ (by omega), hZ1, sc_n _ _ (by omega)]; exact (q.2 g g0 g1).2
set_option maxHeartbeats 4000000 in
set_option maxRecDepth 20000 in
theorem c_beginD (D : Nat) (M : Mem) (hI : PkI 3 M) : CV (D + 1) 5 [.inr (.inr 30), .inr (.inr 3)] M (fun M' => (∀ c, c < 30 ∨ c = 31 ∨ c = 48 ∨ 65 < c → M' c = M c) ∧ M' 30 4 = 0 ∧ CD M' (M 4) (M 3 4) (M 3 5) (fun i => 5 * i) (fun _ => 1)) := by
  refine mk_C mt_5 rfl (Nat.le_of_ble_eq_true rfl) (L := [some _, some _, none]) rfl ?_
  obtain ⟨n0, n1, k0, k1, f0, f1, r0, r1, s0, s1, hA⟩ := pkd_3 hI
  refine w_aload_n ta_5 rfl rfl ?_
  refine w_aload_n ta_5 rfl rfl ?_
  refine w_getI 4 ta_5 rfl rfl rfl ?_
  refine w_putI 5 ta_5 rfl rfl rfl ?_
  refine w_aload_n ta_5 rfl rfl ?_
  refine w_aload_n ta_5 rfl rfl ?_
  refine w_getI 5 ta_5 rfl rfl rfl ?_
  refine w_putI 6 ta_5 rfl rfl rfl ?_
  refine w_aload_n ta_5 rfl rfl ?_
  refine w_iconst ta_5 rfl ?_
  refine w_putI 4 ta_5 rfl rfl rfl ?_
  refine w_iconst ta_5 rfl ?_
  refine w_istn_2_3 ta_5 rfl rfl ?_
  refine (lp_beginD D M hI 0 (by omega) n0 _ (fun c hc => ?_) ?_ (fun p p0 p1 => by omega)).imp ?_
  · rw [wr_n _ _ _ (by omega), wr_n _ _ _ (by omega), wr_n _ _ _ (by omega)]
  · rfl
  · rintro r M2 ⟨hr, hF, e30, hR⟩
    refine ⟨hr, hF, by rw [e30]; rfl, by rw [e30]; rfl, by rw [e30]; rfl, fun p p0 p1 => (hR p p0 p1).1, fun p g p0 p1 _ g0 g1 => ?_⟩
    have q := (hR p p0 p1).2 g g0 (by omega)
    rw [sP_st _ p0 p1 g0 (by omega), bP_st p0 p1 g0 (by omega)]
    exact q
set_option maxHeartbeats 4000000 in
set_option maxRecDepth 20000 in
theorem c_joinTwo (D : Nat) (N : Mem) (ch : Int → Int) (n k : Int) (hn : n ≤ 16) (k0 : 2 ≤ k) (k1 : k ≤ 5) (hc : ∀ i, 0 ≤ i → i < n → 1 ≤ ch i ∧ ch i ≤ 999) (m : Nat) (hm : (m : Int) + 2 ≤ n) (hC : CD N ch n k (dS ch n k m).1 (dS ch n k m).2) (hj : N 30 4 = m) : CV (D + 4) 6 [.inr (.inr 30)] N (fun M' => (∀ c, c < 30 ∨ c = 31 ∨ c = 48 ∨ 66 < c → M' c = N c) ∧ M' 30 4 = m + 1 ∧ M' 66 = upI (N 66) m (100 * d1 ch n k m + d2 ch n k m) ∧ CD M' ch n k (dS ch n k (m + 1)).1 (dS ch n k (m + 1)).2) := by
  refine mk_C mt_6 rfl (Nat.le_of_ble_eq_true rfl) (L := [some _, none, none]) rfl ?_
  have dI := dS_I ch (n := n) (k := k) (by omega) k0 k1 m (by omega)
  obtain ⟨x0, x1, x2⟩ := dI.one ch (by omega)
  obtain ⟨y0, y1, y2, y3⟩ := dI.two ch (by omega) x0 x1 x2
  refine w_aload_n ta_6 rfl rfl ?_
  refine w_bipush ta_6 rfl ?_
  refine w_cI [_, _] _ ta_6 rfl rfl rfl mt_7 rfl rfl rfl rfl (Nat.le_of_ble_eq_true rfl) (fun _ => rfl) rfl (c_widestBut _ N ch n k _ _ hn k0 k1 hc dI.p hC (by omega) (-4) (by decide)) ?_
  rintro v1 N2 ⟨hv1, rfl⟩
  rw [← hv1] at x0 x1 x2 y0 y1 y2 y3
  refine w_istn_1_3 ta_6 rfl rfl ?_
  refine w_aload_n ta_6 rfl rfl ?_
  refine w_iload_n ta_6 rfl rfl ?_
  refine w_cI [_, _] _ ta_6 rfl rfl rfl mt_7 rfl rfl rfl rfl (Nat.le_of_ble_eq_true rfl) (fun _ => rfl) rfl (c_widestBut _ _ ch n k _ _ hn k0 k1 hc dI.p hC (by omega) v1 (by constructor <;> omega)) ?_
  rintro v2 N3 ⟨hv2, rfl⟩
  rw [← hv2] at y0 y1 y2 y3
  refine w_istn_2_3 ta_6 rfl rfl ?_
  refine w_iload_n ta_6 rfl rfl ?_
  refine w_bipush ta_6 rfl ?_
  refine w_icmp_eq ta_6 rfl ⟨by omega, by omega⟩ ⟨by omega, by omega⟩ (fun h16 => ?_) (fun h16 => ?_)
  · exfalso; omega
  · refine w_iload_n ta_6 rfl rfl ?_
    refine w_bipush ta_6 rfl ?_
    refine w_icmp_ne ta_6 rfl ⟨by omega, by omega⟩ ⟨by omega, by omega⟩ (fun h22 => ?_) (fun h22 => ?_)
    · refine w_aload_n ta_6 rfl rfl ?_
      refine w_getR ta_6 rfl rfl ?_
      refine w_aload_n ta_6 rfl rfl ?_
      refine w_getIv 4 (v := (m : Int)) ta_6 rfl rfl rfl hj ?_
      refine w_bipush ta_6 rfl ?_
      refine w_iload_n ta_6 rfl rfl ?_
      refine w_imul ta_6 rfl ?_
      refine w_iload_n ta_6 rfl rfl ?_
      refine w_iadd ta_6 rfl ?_
      refine w_iastore ta_6 rfl rfl (by omega) (by omega) (by omega) ?_
      refine w_aload_n ta_6 rfl rfl ?_
      refine w_dup ta_6 rfl rfl ?_
      refine w_getIv 4 (v := (m : Int)) ta_6 rfl rfl rfl (by show N3 30 4 = _; exact hj) ?_
      refine w_iconst ta_6 rfl ?_
      refine w_iadd ta_6 rfl ?_
      refine w_putI 4 ta_6 rfl rfl rfl ?_
      refine w_aload_n ta_6 rfl rfl ?_
      have e := mn_mx (a := v1) (b := v2) (fun z => y3 z.symm)
      have hC3 : ∀ Z : Mem, (∀ c, c ≠ 66 → c ≠ 30 → Z c = N3 c) → Z 30 5 = N3 30 5 → Z 30 6 = N3 30 6 → CD Z ch n k (dS ch n k m).1 (dS ch n k m).2 := fun Z q q5 q6 => ⟨by rw [q5]; exact hC.1, by rw [q6]; exact hC.2.1, fun p p0 p1 => by rw [q 65 (by decide) (by decide)]; exact hC.2.2.1 p p0 p1, fun p g p0 p1 pp g0 g1 => by rw [q _ (by omega) (by omega), q _ (by omega) (by omega)]; exact hC.2.2.2 p g p0 p1 pp g0 g1⟩
      have pmn : (dS ch n k m).2 (mn v1 v2) = 1 := by
        rcases e.2 with q | q
        · rw [q.1]; exact x2
        · rw [q.1]; exact y2
      have pmx : (dS ch n k m).2 (mx v1 v2) = 1 := by
        rcases e.2 with q | q
        · rw [q.2]; exact y2
        · rw [q.2]; exact x2
      have em : (if v2 < v1 then v2 else v1) = mn v1 v2 := by
        unfold mn
        by_cases z : v1 < v2
        · rw [if_pos z, if_neg (by omega)]
        · rw [if_neg z, if_pos (by omega)]
      refine w_iload_n ta_6 rfl rfl ?_
      refine w_iload_n ta_6 rfl rfl ?_
      refine w_min ta_6 rfl ⟨by omega, by omega⟩ ⟨by omega, by omega⟩ (Nat.le_of_ble_eq_true rfl) ?_
      rw [em]
      refine w_iload_n ta_6 rfl rfl ?_
      refine w_iload_n ta_6 rfl rfl ?_
      refine w_max ta_6 rfl ⟨by omega, by omega⟩ ⟨by omega, by omega⟩ (Nat.le_of_ble_eq_true rfl) ?_
      refine w_cV [_, _, _] _ ta_6 rfl rfl rfl mt_9 rfl rfl rfl rfl (Nat.le_of_ble_eq_true rfl) (fun _ => rfl) rfl (c_merge _ _ ch n k _ _ hn k0 k1 hc m dI (hC3 _ (fun c c1 c2 => (wr_n _ _ _ c2).trans (wr_n _ _ _ c1)) (by rfl) (by rfl)) (mn v1 v2) (mx v1 v2) (by omega) (by omega) (by omega) (by omega) (by omega) pmn pmx) ?_
      rintro N4 ⟨hF, hC4⟩
      refine w_vret ta_6 rfl ?_
      refine ⟨rfl, fun c hc => by rw [hF c (by omega) (by omega) (by omega), wr_n _ _ _ (by omega), wr_n _ _ _ (by omega)], ?_, ?_, ?_⟩
      · rw [hF 30 (by omega) (by omega) (by omega), wr_s, up_s]
      · rw [hF 66 (by omega) (by omega) (by omega), wr_n _ _ _ (by omega), wr_s, hv2, hv1]
        rfl
      · rw [dS_s]
        have f1 : d1 ch n k m = v1 := hv1.symm
        have f2 : d2 ch n k m = v2 := by unfold d2; rw [f1]; exact hv2.symm
        rw [f1, f2]
        exact hC4
    · exfalso; omega
set_option maxHeartbeats 4000000 in
set_option maxRecDepth 20000 in
theorem lp_bundleOf (D : Nat) (N : Mem) (n k i : Int) (H : Int → Int) (hn : n ≤ 16) (k1 : k ≤ 5) (hk : N 30 6 = k) (i0 : 0 ≤ i) (i1 : i < n) (hH : 0 ≤ H i ∧ H i < k) (hV : ∀ g, 0 ≤ g → g < k → N 49 g = bP (pr H g) n) : ∀ g : Int, 0 ≤ g → g ≤ k → g ≤ H i → Wp D 12 (2, [some (.inr (.inr 30)), some (.inl i), some (.inl g)], [], N) (fun r M' => ∃ v, r = some (.inl v) ∧ (v = H i ∧ M' = N)) := by
  have ab : ∀ g, inR (iAnd (bP (pr H g) n) (1 * 2 ^ i.toNat)) := fun g => by
    have q := bP_b (pr H g) hn
    have h4 : 2 ^ i.toNat ≤ 2 ^ 16 := Nat.pow_le_pow_right (by decide) (by omega)
    rw [bP_N] at q ⊢
    rw [Int.one_mul, show (2 : Int) ^ i.toNat = ((2 ^ i.toNat : Nat) : Int) by simp, iAnd_nat (by omega)]
    have : (bN (fun i => pr H g i) n.toNat &&& 2 ^ i.toNat % 4294967296) ≤ bN (fun i => pr H g i) n.toNat := Nat.and_le_left
    constructor <;> omega
  refine loopZ k ?_
  intro g h0 h1 ih hg
  refine w_iload_n ta_12 rfl rfl ?_
  refine w_aload_n ta_12 rfl rfl ?_
  refine w_getIv 6 (v := k) ta_12 rfl rfl rfl hk ?_
  refine w_icmp_ge ta_12 rfl ⟨by omega, by omega⟩ ⟨by omega, by omega⟩ (fun h7 => ?_) (fun h7 => ?_)
  · exfalso; omega
  · have hb := bP_has (pr H g) hn i0 i1
    refine w_aload_n ta_12 rfl rfl ?_
    refine w_getR ta_12 rfl rfl ?_
    refine w_iconst ta_12 rfl ?_
    refine w_aaload (d := 49) ta_12 rfl rfl (by decide) (by decide) (by decide) rfl ?_
    refine w_iload_n ta_12 rfl rfl ?_
    refine w_ialoadv (v := bP (pr H g) n) ta_12 rfl rfl (by omega) (by omega) (by omega) (hV g h0 h7) ?_
    refine w_iconst ta_12 rfl ?_
    refine w_iload_n ta_12 rfl rfl ?_
    refine w_ishl ta_12 rfl (by omega) (by omega) ?_
    refine w_iand ta_12 rfl ?_
    refine w_if_eq ta_12 rfl (ab g) (fun h22 => ?_) (fun h22 => ?_)
    · have hne : H i ≠ g := by have := hb.mp h22; intro z; rw [pr_t.mpr z] at this; cases this
      refine w_iinc_2_3 ta_12 rfl rfl ?_
      refine w_goto ta_12 rfl ?_
      exact ih h7 (by omega)
    · have he : H i = g := by
        refine Classical.byContradiction fun z => h22 (hb.mpr ?_)
        cases q : pr H g i
        · rfl
        · exact absurd (pr_t.mp q) z
      refine w_iload_n ta_12 rfl rfl ?_
      refine w_iret ta_12 rfl (Or.inl rfl) ?_
      exact ⟨_, rfl, he.symm, rfl⟩
set_option maxHeartbeats 4000000 in
set_option maxRecDepth 20000 in
theorem c_bundleOf (D : Nat) (N : Mem) (n k i : Int) (H : Int → Int) (hn : n ≤ 16) (k1 : k ≤ 5) (hk : N 30 6 = k) (i0 : 0 ≤ i) (i1 : i < n) (hH : 0 ≤ H i ∧ H i < k) (hV : ∀ g, 0 ≤ g → g < k → N 49 g = bP (pr H g) n) : CI D 12 [.inr (.inr 30), .inl i] N (fun v M' => v = H i ∧ M' = N) := by
  refine mk_C mt_12 rfl (Nat.le_of_ble_eq_true rfl) (L := [some _, some _, none]) rfl ?_
  refine w_iconst ta_12 rfl ?_
  refine w_istn_2_3 ta_12 rfl rfl ?_
  exact lp_bundleOf D N n k i H hn k1 hk i0 i1 hH hV 0 (by omega) (by omega) hH.1
set_option maxHeartbeats 4000000 in
set_option maxRecDepth 20000 in
theorem lp_chooseD2 (D : Nat) (M : Mem) (hI : PkI 3 M) : ∀ i : Int, 0 ≤ i → i ≤ M 3 4 → ∀ Z, (∀ c, c < 27 ∨ 70 < c → Z c = M c) → Z 30 4 = ((M 3 4 - 1).toNat : Int) → (∀ j : Nat, j < (M 3 4 - 1).toNat → Z 66 j = 100 * d1 (M 4) (M 3 4) (M 3 5) j + d2 (M 4) (M 3 4) (M 3 5) j) → CD Z (M 4) (M 3 4) (M 3 5) (dS (M 4) (M 3 4) (M 3 5) (M 3 4 - 1).toNat).1 (dS (M 4) (M 3 4) (M 3 5) (M 3 4 - 1).toNat).2 → (∀ j, 0 ≤ j → j < i → Z 27 j = way2 (M 4) (M 3 4) (M 3 5) j) → Wp (D + 5) 4 (27, [some (.inr (.inr 30)), some (.inr (.inr 3)), some (.inr (.inr 27)), some (.inl i)], [], Z) (fun r M' => r = none ∧ (∀ c, c < 27 ∨ 70 < c → M' c = M c) ∧ (∀ i, 0 ≤ i → i < M 3 4 → M' 27 i = way2 (M 4) (M 3 4) (M 3 5) i) ∧ M' 30 4 = ((M 3 4 - 1).toNat : Int) ∧ ∀ j : Nat, j < (M 3 4 - 1).toNat → M' 66 j = 100 * d1 (M 4) (M 3 4) (M 3 5) j + d2 (M 4) (M 3 4) (M 3 5) j) := by
  obtain ⟨n0, n1, k0, k1, f0, f1, r0, r1, s0, s1, hA⟩ := pkd_3 hI
  have dI := dS_I (M 4) (n := M 3 4) (k := M 3 5) n0 k0 k1 (M 3 4 - 1).toNat (by omega)
  refine loopZ (M 3 4) ?_
  intro i h0 h1 ih Z hF hj hl hC hw
  refine w_iload_n ta_4 rfl rfl ?_
  refine w_aload_n ta_4 rfl rfl ?_
  refine w_getIv 5 (v := M 3 4) ta_4 rfl rfl rfl hC.1 ?_
  refine w_icmp_ge ta_4 rfl ⟨by omega, by omega⟩ ⟨by omega, by omega⟩ (fun h32 => ?_) (fun h32 => ?_)
  · refine w_vret ta_4 rfl ?_
    have e : i = M 3 4 := by omega
    subst e
    exact ⟨rfl, hF, hw, hj, hl⟩
  · refine w_aload_n ta_4 rfl rfl ?_
    refine w_iload_n ta_4 rfl rfl ?_
    refine w_aload_n ta_4 rfl rfl ?_
    refine w_iload_n ta_4 rfl rfl ?_
    refine w_cI [_, _] _ ta_4 rfl rfl rfl mt_12 rfl rfl rfl rfl (Nat.le_of_ble_eq_true rfl) (fun _ => rfl) rfl (c_bundleOf _ Z (M 3 4) (M 3 5) i (way2 (M 4) (M 3 4) (M 3 5)) n1 k1 hC.2.1 h0 h32 (way2_b (M 4) k0 k1 i h0 h32) (fun g g0 g1 => by have q := (hC.2.2.2 0 g (by omega) (by omega) dI.z g0 g1).2; rw [show 5 * 0 + g = g by omega] at q; exact q)) ?_
    rintro v Z2 ⟨hv, rfl⟩
    refine w_iastore ta_4 rfl rfl (by omega) (by omega) (by omega) ?_
    refine w_iinc_3_4 ta_4 rfl rfl ?_
    refine w_goto ta_4 rfl ?_
    refine ih h32 _ (fun c hc => by rw [wr_n _ _ _ (by omega)]; exact hF c hc) (by rw [wr_n _ _ _ (by decide)]; exact hj) (fun j j1 => by rw [wr_n _ _ _ (by decide)]; exact hl j j1) ⟨by rw [wr_n _ _ _ (by decide)]; exact hC.1, by rw [wr_n _ _ _ (by decide)]; exact hC.2.1, fun p p0 p1 => by rw [wr_n _ _ _ (by decide)]; exact hC.2.2.1 p p0 p1, fun p g p0 p1 pp g0 g1 => by rw [wr_n _ _ _ (by omega), wr_n _ _ _ (by omega)]; exact hC.2.2.2 p g p0 p1 pp g0 g1⟩ (fun j j0 j1 => ?_)
    rw [wr_s]
    unfold upI
    split
    · rename_i e; rw [e]; exact hv
    · exact hw j j0 (by omega)
set_option maxHeartbeats 4000000 in
set_option maxRecDepth 20000 in
theorem lp_chooseD1 (D : Nat) (M : Mem) (hI : PkI 3 M) : ∀ (d : Nat) (Z : Mem) (m : Nat), (d : Int) + m = M 3 4 → (d = 0 → m = 0) → (∀ c, c < 30 ∨ c = 31 ∨ c = 48 ∨ 66 < c → Z c = M c) → Z 30 4 = (m : Nat) → (∀ j : Nat, j < m → Z 66 j = 100 * d1 (M 4) (M 3 4) (M 3 5) j + d2 (M 4) (M 3 4) (M 3 5) j) → CD Z (M 4) (M 3 4) (M 3 5) (dS (M 4) (M 3 4) (M 3 5) m).1 (dS (M 4) (M 3 4) (M 3 5) m).2 → Wp (D + 5) 4 (10, [some (.inr (.inr 30)), some (.inr (.inr 3)), some (.inr (.inr 27)), some (.inl (d : Int))], [], Z) (fun r M' => r = none ∧ (∀ c, c < 27 ∨ 70 < c → M' c = M c) ∧ (∀ i, 0 ≤ i → i < M 3 4 → M' 27 i = way2 (M 4) (M 3 4) (M 3 5) i) ∧ M' 30 4 = ((M 3 4 - 1).toNat : Int) ∧ ∀ j : Nat, j < (M 3 4 - 1).toNat → M' 66 j = 100 * d1 (M 4) (M 3 4) (M 3 5) j + d2 (M 4) (M 3 4) (M 3 5) j) := by
  obtain ⟨n0, n1, k0, k1, f0, f1, r0, r1, s0, s1, hA⟩ := pkd_3 hI
  intro d
  induction d with
  | zero =>
    intro Z m hd hz hF hj hl hC
    refine w_iload_n ta_4 rfl rfl ?_
    refine w_iconst ta_4 rfl ?_
    refine w_icmp_le ta_4 rfl ⟨by omega, by omega⟩ ⟨by omega, by omega⟩ (fun h12 => ?_) (fun h12 => ?_)
    · refine w_iconst ta_4 rfl ?_
      refine w_istn_3_4 ta_4 rfl rfl ?_
      have e : m = (M 3 4 - 1).toNat := by omega
      rw [e] at hj hl hC
      exact lp_chooseD2 D M hI 0 (by omega) n0 Z (fun c hc => hF c (by omega)) hj hl hC (fun j j0 j1 => by omega)
    · exfalso; omega
  | succ d ih =>
    intro Z m hd hz hF hj hl hC
    refine w_iload_n ta_4 rfl rfl ?_
    refine w_iconst ta_4 rfl ?_
    refine w_icmp_le ta_4 rfl ⟨by omega, by omega⟩ ⟨by omega, by omega⟩ (fun h12 => ?_) (fun h12 => ?_)
    · refine w_iconst ta_4 rfl ?_
      refine w_istn_3_4 ta_4 rfl rfl ?_
      have e : m = (M 3 4 - 1).toNat := by omega
      rw [e] at hj hl hC
      exact lp_chooseD2 D M hI 0 (by omega) n0 Z (fun c hc => hF c (by omega)) hj hl hC (fun j j0 j1 => by omega)
    · refine w_aload_n ta_4 rfl rfl ?_
      refine w_cV [_] _ ta_4 rfl rfl rfl mt_6 rfl rfl rfl rfl (Nat.le_of_ble_eq_true rfl) (fun _ => rfl) rfl (c_joinTwo _ Z (M 4) (M 3 4) (M 3 5) n1 k0 k1 (fun i i0 i1 => by have := hA i i0 i1; omega) m (by omega) hC hj) ?_
      rintro Z2 ⟨hF2, hj2, hl2, hC2⟩
      refine w_iinc_3_4 ta_4 rfl rfl ?_
      refine w_goto ta_4 rfl ?_
      rw [show (((d + 1 : Nat) : Int) + -1) = (d : Int) by omega]
      refine ih Z2 (m + 1) (by omega) (by omega) (fun c hc => (hF2 c hc).trans (hF c hc)) (by rw [hj2]; omega) (fun j j1 => ?_) hC2
      rw [hl2]
      unfold upI
      by_cases e : j = m
      · rw [if_pos (by omega), e]
      · rw [if_neg (by omega)]; exact hl j (by omega)
set_option maxHeartbeats 4000000 in
set_option maxRecDepth 20000 in
theorem c_chooseD (D : Nat) (M : Mem) (hI : PkI 3 M) : CV (D + 5) 4 [.inr (.inr 30), .inr (.inr 3), .inr (.inr 27)] M (fun M' => (∀ c, c < 27 ∨ 70 < c → M' c = M c) ∧ (∀ i, 0 ≤ i → i < M 3 4 → M' 27 i = way2 (M 4) (M 3 4) (M 3 5) i) ∧ M' 30 4 = ((M 3 4 - 1).toNat : Int) ∧ ∀ j : Nat, j < (M 3 4 - 1).toNat → M' 66 j = 100 * d1 (M 4) (M 3 4) (M 3 5) j + d2 (M 4) (M 3 4) (M 3 5) j) := by
  refine mk_C mt_4 rfl (Nat.le_of_ble_eq_true rfl) (L := [some _, some _, some _, none]) rfl ?_
  obtain ⟨n0, n1, k0, k1, f0, f1, r0, r1, s0, s1, hA⟩ := pkd_3 hI
  refine w_aload_n ta_4 rfl rfl ?_
  refine w_aload_n ta_4 rfl rfl ?_
  refine w_cV [_, _] _ ta_4 rfl rfl rfl mt_5 rfl rfl rfl rfl (Nat.le_of_ble_eq_true rfl) (fun _ => rfl) rfl (c_beginD _ M hI) ?_
  rintro Z ⟨hF, hj, hC⟩
  refine w_aload_n ta_4 rfl rfl ?_
  refine w_getIv 5 (v := M 3 4) ta_4 rfl rfl rfl hC.1 ?_
  refine w_istn_3_4 ta_4 rfl rfl ?_
  have q := lp_chooseD1 D M hI (M 3 4).toNat Z 0 (by omega) (fun _ => rfl) (fun c hc => hF c (by omega)) hj (fun j j1 => absurd j1 (by omega)) hC
  rw [show (((M 3 4).toNat : Nat) : Int) = M 3 4 by omega] at q
  exact q
