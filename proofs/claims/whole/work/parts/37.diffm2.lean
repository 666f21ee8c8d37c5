/-! way 2, the reference: from the first to the last -/
set_option maxHeartbeats 4000000 in
set_option maxRecDepth 20000 in
theorem lm_fd2 (D : Nat) (M : Mem) (hI : MdI M) (P : Option AV → Mem → Prop) (i : Int) (i0 : 0 ≤ i) (i1 : i < M 81 0) (q3 : Option AV) (hP : ∀ Z, (∀ c, c ≠ 80 → c ≠ 90 → c ≠ 91 → Z c = M c) → Z 80 = upI (M 80) 21 0 → (∀ p, 0 ≤ p → p < i → Z 91 p = 1 ∧ ∀ g, 0 ≤ g → g < 5 → Z 90 (5 * p + g) = (if g = 0 then 1 * 2 ^ p.toNat else 0)) → (Z 91 i = 1 ∧ ∀ g, 0 ≤ g → g < 5 → Z 90 (5 * i + g) = (if g = 0 then 1 * 2 ^ i.toNat else 0)) → Wp (D + 4) 150 (58, [some (.inr (.inr 80)), some (.inl i), some (.inl 5), q3], [], Z) P) : ∀ x : Int, 0 ≤ x → x ≤ 5 → ∀ Z, (∀ c, c ≠ 80 → c ≠ 90 → c ≠ 91 → Z c = M c) → Z 80 = upI (M 80) 21 0 → (∀ p, 0 ≤ p → p < i → Z 91 p = 1 ∧ ∀ g, 0 ≤ g → g < 5 → Z 90 (5 * p + g) = (if g = 0 then 1 * 2 ^ p.toNat else 0)) → (Z 91 i = 1 ∧ ∀ g, 0 ≤ g → g < x → Z 90 (5 * i + g) = (if g = 0 then 1 * 2 ^ i.toNat else 0)) → Wp (D + 4) 150 (26, [some (.inr (.inr 80)), some (.inl i), some (.inl x), q3], [], Z) P := by
  obtain ⟨n0, n1, k0, k1, f0, f1, r0, r1, s0, s1, hA⟩ := id hI
  refine loopZ 5 ?_
  intro x h0 h1 ih Z hF e8 hR hG
  refine w_iload_n ta_150 rfl rfl ?_
  refine w_iconst ta_150 rfl ?_
  refine w_icmp_ge ta_150 rfl ⟨by omega, by omega⟩ ⟨by omega, by omega⟩ (fun h28 => ?_) (fun h28 => ?_)
  · have e : x = 5 := by omega
    subst e
    exact hP Z hF e8 hR hG
  · refine w_aload_n ta_150 rfl rfl ?_
    refine w_getR ta_150 rfl rfl ?_
    refine w_iconst ta_150 rfl ?_
    refine w_iload_n ta_150 rfl rfl ?_
    refine w_imul ta_150 rfl ?_
    refine w_iload_n ta_150 rfl rfl ?_
    refine w_iadd ta_150 rfl ?_
    refine w_iload_n ta_150 rfl rfl ?_
    refine w_if_ne ta_150 rfl ⟨by omega, by omega⟩ (fun h41 => ?_) (fun h41 => ?_)
    · refine w_iconst ta_150 rfl ?_
      refine w_iastore ta_150 rfl rfl (by omega) (by omega) (by omega) ?_
      refine w_iinc_2_4 ta_150 rfl rfl ?_
      refine w_goto ta_150 rfl ?_
      refine ih h28 _ (fun c c1 c2 c3 => by rw [wr_n _ _ _ c2]; exact hF c c1 c2 c3) (by rw [wr_n _ _ _ (by decide)]; exact e8) (fun p p0 p1 => ⟨by rw [wr_n _ _ _ (by decide)]; exact (hR p p0 p1).1, fun g g0 g1 => by rw [wr_s, up_n _ _ (by omega)]; exact (hR p p0 p1).2 g g0 g1⟩) ⟨by rw [wr_n _ _ _ (by decide)]; exact hG.1, fun g g0 g1 => ?_⟩
      rw [wr_s]
      by_cases e : g = x
      · subst e
        rw [up_s]
        first
          | rw [if_pos (by omega)]
          | rw [if_neg (by omega)]
      · rw [up_n _ _ (by omega)]
        exact hG.2 g g0 (by omega)
    · refine w_iconst ta_150 rfl ?_
      refine w_iload_n ta_150 rfl rfl ?_
      refine w_ishl ta_150 rfl (by omega) (by omega) ?_
      refine w_goto ta_150 rfl ?_
      refine w_iastore ta_150 rfl rfl (by omega) (by omega) (by omega) ?_
      refine w_iinc_2_4 ta_150 rfl rfl ?_
      refine w_goto ta_150 rfl ?_
      refine ih h28 _ (fun c c1 c2 c3 => by rw [wr_n _ _ _ c2]; exact hF c c1 c2 c3) (by rw [wr_n _ _ _ (by decide)]; exact e8) (fun p p0 p1 => ⟨by rw [wr_n _ _ _ (by decide)]; exact (hR p p0 p1).1, fun g g0 g1 => by rw [wr_s, up_n _ _ (by omega)]; exact (hR p p0 p1).2 g g0 g1⟩) ⟨by rw [wr_n _ _ _ (by decide)]; exact hG.1, fun g g0 g1 => ?_⟩
      rw [wr_s]
      by_cases e : g = x
      · subst e
        rw [up_s]
        first
          | rw [if_pos (by omega)]
          | rw [if_neg (by omega)]
      · rw [up_n _ _ (by omega)]
        exact hG.2 g g0 (by omega)
set_option maxHeartbeats 4000000 in
set_option maxRecDepth 20000 in
theorem lm_fd1 (D : Nat) (M : Mem) (hI : MdI M) (P : Option AV → Mem → Prop) (hP : ∀ Z q2 q3, isLg q2 = false → (∀ c, c ≠ 80 → c ≠ 90 → c ≠ 91 → Z c = M c) → Z 80 = upI (M 80) 21 0 → (∀ p, 0 ≤ p → p < M 81 0 → Z 91 p = 1 ∧ ∀ g, 0 ≤ g → g < 5 → Z 90 (5 * p + g) = (if g = 0 then 1 * 2 ^ p.toNat else 0)) → Wp (D + 4) 150 (64, [some (.inr (.inr 80)), some (.inl (M 81 0)), q2, q3], [], Z) P) : ∀ i : Int, 0 ≤ i → i ≤ M 81 0 → ∀ Z q2 q3, isLg q2 = false → (∀ c, c ≠ 80 → c ≠ 90 → c ≠ 91 → Z c = M c) → Z 80 = upI (M 80) 21 0 → (∀ p, 0 ≤ p → p < i → Z 91 p = 1 ∧ ∀ g, 0 ≤ g → g < 5 → Z 90 (5 * p + g) = (if g = 0 then 1 * 2 ^ p.toNat else 0)) → Wp (D + 4) 150 (7, [some (.inr (.inr 80)), some (.inl i), q2, q3], [], Z) P := by
  obtain ⟨n0, n1, k0, k1, f0, f1, r0, r1, s0, s1, hA⟩ := id hI
  refine loopZ (M 81 0) ?_
  intro i h0 h1 ih Z q2 q3 hq hF e8 hR
  refine w_iload_n ta_150 rfl rfl ?_
  refine w_aload_n ta_150 rfl rfl ?_
  refine w_getR ta_150 rfl rfl ?_
  refine w_iconst ta_150 rfl ?_
  refine w_ialoadv (v := M 81 0) ta_150 rfl rfl (by decide) (by decide) (by omega) (by rw [hF 81 (by decide) (by decide) (by decide)]) ?_
  refine w_icmp_ge ta_150 rfl ⟨by omega, by omega⟩ ⟨by omega, by omega⟩ (fun h14 => ?_) (fun h14 => ?_)
  · have e : i = M 81 0 := by omega
    subst e
    exact hP Z q2 q3 hq hF e8 hR
  · refine w_aload_n ta_150 rfl rfl ?_
    refine w_getR ta_150 rfl rfl ?_
    refine w_iload_n ta_150 rfl rfl ?_
    refine w_iconst ta_150 rfl ?_
    refine w_bastore ta_150 rfl rfl (by omega) (by omega) (by omega) (by omega) ?_
    refine w_iconst ta_150 rfl ?_
    refine w_istn_2_4 ta_150 rfl rfl ?_
    refine lm_fd2 D M hI P i h0 h14 q3 ?_ 0 (by omega) (by omega) _ (fun c c1 c2 c3 => by rw [wr_n _ _ _ c3]; exact hF c c1 c2 c3) (by rw [wr_n _ _ _ (by decide)]; exact e8) (fun p p0 p1 => ⟨by rw [wr_s, up_n _ _ (by omega)]; exact (hR p p0 p1).1, fun g g0 g1 => by rw [wr_n _ _ _ (by decide)]; exact (hR p p0 p1).2 g g0 g1⟩) ⟨by rw [wr_s, up_s], fun g g0 g1 => by omega⟩
    intro Z hF e8 hR hG
    refine w_iinc_1_4 ta_150 rfl rfl ?_
    refine w_goto ta_150 rfl ?_
    refine ih h14 Z _ q3 rfl hF e8 (fun p p0 p1 => ?_)
    by_cases e : p = i
    · rw [e]; exact hG
    · exact hR p p0 (by omega)
set_option maxHeartbeats 4000000 in
set_option maxRecDepth 20000 in
theorem lm_fd5 (D : Nat) (M : Mem) (hI : MdI M) (P : Option AV → Mem → Prop) (i : Int) (i0 : 0 ≤ i) (i1 : i < M 81 0) (q3 : Option AV) (hP : ∀ Z, (∀ c, c ≠ 80 → c < 89 ∨ 93 < c → Z c = M c) → Z 80 = upI (M 80) 21 ((M 81 0 - 1).toNat : Nat) → (∀ j : Nat, j < (M 81 0 - 1).toNat → Z 92 j = d1 (mC M) (M 81 0) (M 81 1) j ∧ Z 93 j = d2 (mC M) (M 81 0) (M 81 1) j) → MP Z (M 81 0) (M 81 1) (dS (mC M) (M 81 0) (M 81 1) (M 81 0 - 1).toNat).1 (dS (mC M) (M 81 0) (M 81 1) (M 81 0 - 1).toNat).2 → (∀ j, 0 ≤ j → j < i + 1 → Z 89 j = way2 (mC M) (M 81 0) (M 81 1) j) → Wp (D + 4) 150 (191, [some (.inr (.inr 80)), some (.inl i), some (.inl (M 81 1)), q3], [], Z) P) : ∀ g : Int, 0 ≤ g → g ≤ M 81 1 → ∀ Z, (∀ c, c ≠ 80 → c < 89 ∨ 93 < c → Z c = M c) → Z 80 = upI (M 80) 21 ((M 81 0 - 1).toNat : Nat) → (∀ j : Nat, j < (M 81 0 - 1).toNat → Z 92 j = d1 (mC M) (M 81 0) (M 81 1) j ∧ Z 93 j = d2 (mC M) (M 81 0) (M 81 1) j) → MP Z (M 81 0) (M 81 1) (dS (mC M) (M 81 0) (M 81 1) (M 81 0 - 1).toNat).1 (dS (mC M) (M 81 0) (M 81 1) (M 81 0 - 1).toNat).2 → (∀ j, 0 ≤ j → j < i → Z 89 j = way2 (mC M) (M 81 0) (M 81 1) j) → (way2 (mC M) (M 81 0) (M 81 1) i < g → Z 89 i = way2 (mC M) (M 81 0) (M 81 1) i) → Wp (D + 4) 150 (145, [some (.inr (.inr 80)), some (.inl i), some (.inl g), q3], [], Z) P := by
  obtain ⟨n0, n1, k0, k1, f0, f1, r0, r1, s0, s1, hA⟩ := id hI
  have dI := dS_I (mC M) (n := M 81 0) (k := M 81 1) n0 k0 k1 (M 81 0 - 1).toNat (by omega)
  refine loopZ (M 81 1) ?_
  intro g h0 h1 ih Z hF e8 hL hM hW hg
  refine w_iload_n ta_150 rfl rfl ?_
  refine w_aload_n ta_150 rfl rfl ?_
  refine w_getR ta_150 rfl rfl ?_
  refine w_iconst ta_150 rfl ?_
  refine w_ialoadv (v := M 81 1) ta_150 rfl rfl (by decide) (by decide) (by omega) (by rw [hF 81 (by decide) (by decide)]) ?_
  refine w_icmp_ge ta_150 rfl ⟨by omega, by omega⟩ ⟨by omega, by omega⟩ (fun h152 => ?_) (fun h152 => ?_)
  · have e : g = M 81 1 := by omega
    subst e
    refine hP Z hF e8 hL hM (fun j j0 j1 => ?_)
    by_cases z : j = i
    · rw [z]; exact hg (way2_b (mC M) k0 k1 i i0 i1).2
    · exact hW j j0 (by omega)
  · have ih := fun Z2 (hz : Z2 = wr Z 89 i (Z2 89 i)) => ih h152 Z2 (fun c c1 c2 => by rw [hz, wr_n _ _ _ (by omega)]; exact hF c c1 c2) (by rw [hz, wr_n _ _ _ (by decide)]; exact e8) (fun j j1 => by rw [hz, wr_n _ _ _ (by decide), wr_n _ _ _ (by decide)]; exact hL j j1) (by rw [hz]; exact ⟨fun p p0 p1 => by rw [wr_n _ _ _ (by decide)]; exact hM.1 p p0 p1, fun p g p0 p1 pp g0 g1 => by rw [wr_n _ _ _ (by decide)]; exact hM.2 p g p0 p1 pp g0 g1⟩) (fun j j0 j1 => by rw [hz, wr_s, up_n _ _ (by omega)]; exact hW j j0 j1)
    refine w_aload_n ta_150 rfl rfl ?_
    refine w_getR ta_150 rfl rfl ?_
    refine w_iload_n ta_150 rfl rfl ?_
    refine w_aload_n ta_150 rfl rfl ?_
    refine w_getR ta_150 rfl rfl ?_
    refine w_iload_n ta_150 rfl rfl ?_
    refine w_ialoadv (v := bP (pr (way2 (mC M) (M 81 0) (M 81 1)) g) (M 81 0)) ta_150 rfl rfl (by omega) (by omega) (by omega) (by have q := hM.2 0 g (by omega) (by omega) dI.z h0 h152; rw [show 5 * 0 + g = g by omega] at q; exact q) ?_
    refine w_iload_n ta_150 rfl rfl ?_
    refine w_ishr ta_150 rfl (by omega) (by omega) ?_
    refine w_iconst ta_150 rfl ?_
    refine w_iand ta_150 rfl ?_
    rw [bP_bit _ n1 i0 i1]
    have hpt : pr (way2 (mC M) (M 81 0) (M 81 1)) g i = true ↔ way2 (mC M) (M 81 0) (M 81 1) i = g := pr_t
    refine w_iconst ta_150 rfl ?_
    refine w_icmp_ne ta_150 rfl (by first | decide | (split <;> decide)) (by first | decide | (split <;> decide)) (fun h171 => ?_) (fun h171 => ?_)
    · have ne : way2 (mC M) (M 81 0) (M 81 1) i ≠ g := fun z => h171 (if_pos (hpt.mpr z))
      refine w_aload_n ta_150 rfl rfl ?_
      refine w_getR ta_150 rfl rfl ?_
      refine w_iload_n ta_150 rfl rfl ?_
      refine w_ialoadv (v := Z 89 i) ta_150 rfl rfl (by omega) (by omega) (by omega) rfl ?_
      refine w_iastore ta_150 rfl rfl (by omega) (by omega) (by omega) ?_
      refine w_iinc_2_4 ta_150 rfl rfl ?_
      refine w_goto ta_150 rfl ?_
      first
        | exact ih _ (by rw [wr_s, up_s]) (fun _ => by rw [wr_s, up_s]; exact ee.symm)
        | exact ih _ (by rw [wr_s, up_s]) (fun z => by rw [wr_s, up_s]; exact hg (by omega))
    · have ee : way2 (mC M) (M 81 0) (M 81 1) i = g := by
        refine Classical.byContradiction fun z => ?_
        rw [if_neg (fun q => z (hpt.mp q))] at h171
        omega
      refine w_iload_n ta_150 rfl rfl ?_
      refine w_goto ta_150 rfl ?_
      refine w_iastore ta_150 rfl rfl (by omega) (by omega) (by omega) ?_
      refine w_iinc_2_4 ta_150 rfl rfl ?_
      refine w_goto ta_150 rfl ?_
      first
        | exact ih _ (by rw [wr_s, up_s]) (fun _ => by rw [wr_s, up_s]; exact ee.symm)
        | exact ih _ (by rw [wr_s, up_s]) (fun z => by rw [wr_s, up_s]; exact hg (by omega))
set_option maxHeartbeats 4000000 in
set_option maxRecDepth 20000 in
theorem lm_fd4 (D : Nat) (M : Mem) (hI : MdI M) : ∀ i : Int, 0 ≤ i → i ≤ M 81 0 → ∀ Z q2 q3, isLg q2 = false → (∀ c, c ≠ 80 → c < 89 ∨ 93 < c → Z c = M c) → Z 80 = upI (M 80) 21 ((M 81 0 - 1).toNat : Nat) → (∀ j : Nat, j < (M 81 0 - 1).toNat → Z 92 j = d1 (mC M) (M 81 0) (M 81 1) j ∧ Z 93 j = d2 (mC M) (M 81 0) (M 81 1) j) → MP Z (M 81 0) (M 81 1) (dS (mC M) (M 81 0) (M 81 1) (M 81 0 - 1).toNat).1 (dS (mC M) (M 81 0) (M 81 1) (M 81 0 - 1).toNat).2 → (∀ j, 0 ≤ j → j < i → Z 89 j = way2 (mC M) (M 81 0) (M 81 1) j) → Wp (D + 4) 150 (133, [some (.inr (.inr 80)), some (.inl i), q2, q3], [], Z) (fun r M' => r = none ∧ ScM M M' ∧ (∀ i, 0 ≤ i → i < M 81 0 → M' 89 i = way2 (mC M) (M 81 0) (M 81 1) i) ∧ M' 80 21 = ((M 81 0 - 1).toNat : Nat) ∧ ∀ j : Nat, j < (M 81 0 - 1).toNat → M' 92 j = d1 (mC M) (M 81 0) (M 81 1) j ∧ M' 93 j = d2 (mC M) (M 81 0) (M 81 1) j) := by
  obtain ⟨n0, n1, k0, k1, f0, f1, r0, r1, s0, s1, hA⟩ := id hI
  refine loopZ (M 81 0) ?_
  intro i h0 h1 ih Z q2 q3 hq hF e8 hL hM hW
  refine w_iload_n ta_150 rfl rfl ?_
  refine w_aload_n ta_150 rfl rfl ?_
  refine w_getR ta_150 rfl rfl ?_
  refine w_iconst ta_150 rfl ?_
  refine w_ialoadv (v := M 81 0) ta_150 rfl rfl (by decide) (by decide) (by omega) (by rw [hF 81 (by decide) (by decide)]) ?_
  refine w_icmp_ge ta_150 rfl ⟨by omega, by omega⟩ ⟨by omega, by omega⟩ (fun h140 => ?_) (fun h140 => ?_)
  · refine w_vret ta_150 rfl ?_
    have e : i = M 81 0 := by omega
    subst e
    exact ⟨rfl, ⟨fun c hc => hF c (by omega) (by omega), by rw [e8, up_n _ _ (by decide)], by rw [e8, up_n _ _ (by decide)], by rw [e8, up_n _ _ (by decide)]⟩, hW, by rw [e8, up_s], hL⟩
  · refine w_iconst ta_150 rfl ?_
    refine w_istn_2_4 ta_150 rfl rfl ?_
    refine lm_fd5 D M hI _ i h0 h140 q3 ?_ 0 (by omega) (by omega) Z hF e8 hL hM hW (fun z => by have := (way2_b (mC M) k0 k1 i h0 h140).1; omega)
    intro Z hF e8 hL hM hW
    refine w_iinc_1_4 ta_150 rfl rfl ?_
    refine w_goto ta_150 rfl ?_
    exact ih h140 Z _ q3 rfl hF e8 hL hM hW
set_option maxHeartbeats 4000000 in
set_option maxRecDepth 20000 in
theorem lm_fd3 (D : Nat) (M : Mem) (hI : MdI M) : ∀ (d m : Nat), (m : Int) + d = (M 81 0 - 1).toNat → m ≤ (M 81 0 - 1).toNat → ∀ Z q2 q3, isLg q2 = false → (∀ c, c ≠ 80 → c < 90 ∨ 93 < c → Z c = M c) → Z 80 = upI (M 80) 21 (m : Nat) → (∀ j : Nat, j < m → Z 92 j = d1 (mC M) (M 81 0) (M 81 1) j ∧ Z 93 j = d2 (mC M) (M 81 0) (M 81 1) j) → MP Z (M 81 0) (M 81 1) (dS (mC M) (M 81 0) (M 81 1) m).1 (dS (mC M) (M 81 0) (M 81 1) m).2 → Wp (D + 4) 150 (66, [some (.inr (.inr 80)), some (.inl ((m : Int) + 1)), q2, q3], [], Z) (fun r M' => r = none ∧ ScM M M' ∧ (∀ i, 0 ≤ i → i < M 81 0 → M' 89 i = way2 (mC M) (M 81 0) (M 81 1) i) ∧ M' 80 21 = ((M 81 0 - 1).toNat : Nat) ∧ ∀ j : Nat, j < (M 81 0 - 1).toNat → M' 92 j = d1 (mC M) (M 81 0) (M 81 1) j ∧ M' 93 j = d2 (mC M) (M 81 0) (M 81 1) j) := by
  obtain ⟨n0, n1, k0, k1, f0, f1, r0, r1, s0, s1, hA⟩ := id hI
  intro d
  induction d with
  | zero =>
    intro m hd hm Z q2 q3 hq hF e8 hL hM
    have hF2 : ∀ c, c ≠ 80 → c < 89 ∨ 93 < c → Z c = M c := fun c c1 c2 => hF c c1 (by omega)
    refine w_iload_n ta_150 rfl rfl ?_
    refine w_aload_n ta_150 rfl rfl ?_
    refine w_getR ta_150 rfl rfl ?_
    refine w_iconst ta_150 rfl ?_
    refine w_ialoadv (v := M 81 0) ta_150 rfl rfl (by decide) (by decide) (by omega) (by rw [hF 81 (by decide) (by decide)]) ?_
    refine w_icmp_ge ta_150 rfl ⟨by omega, by omega⟩ ⟨by omega, by omega⟩ (fun h73 => ?_) (fun h73 => ?_)
    · refine w_iconst ta_150 rfl ?_
      refine w_istn_1_4 ta_150 rfl rfl ?_
      have e : m = (M 81 0 - 1).toNat := by omega
      rw [e] at e8 hL hM
      exact lm_fd4 D M hI 0 (by omega) n0 Z _ q3 hq hF2 e8 hL hM (fun j j0 j1 => by omega)
    · exfalso; omega
  | succ d ih =>
    intro m hd hm Z q2 q3 hq hF e8 hL hM
    refine w_iload_n ta_150 rfl rfl ?_
    refine w_aload_n ta_150 rfl rfl ?_
    refine w_getR ta_150 rfl rfl ?_
    refine w_iconst ta_150 rfl ?_
    refine w_ialoadv (v := M 81 0) ta_150 rfl rfl (by decide) (by decide) (by omega) (by rw [hF 81 (by decide) (by decide)]) ?_
    refine w_icmp_ge ta_150 rfl ⟨by omega, by omega⟩ ⟨by omega, by omega⟩ (fun h73 => ?_) (fun h73 => ?_)
    · exfalso; omega
    · have eZ : Z 81 = M 81 := hF 81 (by decide) (by decide)
      have hIZ : MdI Z := hI.of eZ
      have eC : mC Z = mC M := by unfold mC; rw [eZ]
      have dI := dS_I (mC M) (n := M 81 0) (k := M 81 1) n0 k0 k1 m (by omega)
      obtain ⟨x0, x1, x2⟩ := dI.one (mC M) (by omega)
      obtain ⟨y0, y1, y2, y3⟩ := dI.two (mC M) (by omega) x0 x1 x2
      have hw : ∀ (Y : Mem) but, inR but → (∀ c, c ≠ 80 → c < 90 ∨ 93 < c → Y c = M c) → MP Y (M 81 0) (M 81 1) (dS (mC M) (M 81 0) (M 81 1) m).1 (dS (mC M) (M 81 0) (M 81 1) m).2 → CI (D + 3) 147 [.inr (.inr 80), .inl but] Y (fun v M' => v = dW (mC M) (M 81 0) (M 81 1) (dS (mC M) (M 81 0) (M 81 1) m).1 (dS (mC M) (M 81 0) (M 81 1) m).2 but ∧ M' = Y) := by
        intro Y but hb hY hMY
        have eY : Y 81 = M 81 := hY 81 (by decide) (by decide)
        have q := cm_widest (D + 1) Y (hI.of eY) (dS (mC M) (M 81 0) (M 81 1) m).1 (dS (mC M) (M 81 0) (M 81 1) m).2 dI.p (by rw [eY]; exact hMY) but hb
        rw [show mC Y = mC M by unfold mC; rw [eY], eY] at q
        exact q
      refine w_aload_n ta_150 rfl rfl ?_
      refine w_bipush ta_150 rfl ?_
      refine w_cI [_, _] _ ta_150 rfl rfl rfl mt_147 rfl rfl rfl rfl (Nat.le_of_ble_eq_true rfl) (fun _ => rfl) rfl (hw Z (-4) (by decide) hF hM) ?_
      rintro v1 Z2 ⟨hv1, rfl⟩
      rw [← hv1] at x0 x1 x2 y0 y1 y2 y3
      refine w_istn_2_4 ta_150 rfl rfl ?_
      refine w_aload_n ta_150 rfl rfl ?_
      refine w_iload_n ta_150 rfl rfl ?_
      refine w_cI [_, _] _ ta_150 rfl rfl rfl mt_147 rfl rfl rfl rfl (Nat.le_of_ble_eq_true rfl) (fun _ => rfl) rfl (hw Z2 v1 (by constructor <;> omega) hF hM) ?_
      rintro v2 Z3 ⟨hv2, rfl⟩
      rw [← hv2] at y0 y1 y2 y3
      refine w_istn_3_4 ta_150 rfl rfl ?_
      refine w_aload_n ta_150 rfl rfl ?_
      refine w_getR ta_150 rfl rfl ?_
      refine w_aload_n ta_150 rfl rfl ?_
      refine w_getIv 21 (v := (m : Int)) ta_150 rfl rfl rfl (by rw [e8, up_s]) ?_
      refine w_iload_n ta_150 rfl rfl ?_
      refine w_iastore ta_150 rfl rfl (by omega) (by omega) (by omega) ?_
      refine w_aload_n ta_150 rfl rfl ?_
      refine w_getR ta_150 rfl rfl ?_
      refine w_aload_n ta_150 rfl rfl ?_
      refine w_getIv 21 (v := (m : Int)) ta_150 rfl rfl rfl (by rw [wr_n _ _ _ (by decide), e8, up_s]) ?_
      refine w_iload_n ta_150 rfl rfl ?_
      refine w_iastore ta_150 rfl rfl (by omega) (by omega) (by omega) ?_
      refine w_aload_n ta_150 rfl rfl ?_
      refine w_dup ta_150 rfl rfl ?_
      refine w_getIv 21 (v := (m : Int)) ta_150 rfl rfl rfl (by rw [wr_n _ _ _ (by decide), wr_n _ _ _ (by decide), e8, up_s]) ?_
      refine w_iconst ta_150 rfl ?_
      refine w_iadd ta_150 rfl ?_
      refine w_putI 21 ta_150 rfl rfl rfl ?_
      have hFY : ∀ c, c ≠ 80 → c < 90 ∨ 93 < c → wr (wr (wr Z3 92 m v1) 93 m v2) 80 21 ((m : Int) + 1) c = M c := fun c c1 c2 => by rw [wr_n _ _ _ c1, wr_n _ _ _ (by omega), wr_n _ _ _ (by omega)]; exact hF c c1 c2
      generalize hY : wr (wr (wr Z3 92 m v1) 93 m v2) 80 21 ((m : Int) + 1) = Y at hFY ⊢
      have eY : Y 81 = M 81 := hFY 81 (by decide) (by decide)
      have hMY : MP Y (M 81 0) (M 81 1) (dS (mC M) (M 81 0) (M 81 1) m).1 (dS (mC M) (M 81 0) (M 81 1) m).2 := by
        rw [← hY]
        exact ⟨fun p p0 p1 => by rw [wr_n _ _ _ (by decide), wr_n _ _ _ (by decide), wr_n _ _ _ (by decide)]; exact hM.1 p p0 p1, fun p g p0 p1 pp g0 g1 => by rw [wr_n _ _ _ (by decide), wr_n _ _ _ (by decide), wr_n _ _ _ (by decide)]; exact hM.2 p g p0 p1 pp g0 g1⟩
      have hj : CV (D + 3) 149 [.inr (.inr 80), .inl v1, .inl v2] Y (fun M' => (∀ c, c ≠ 90 → c ≠ 91 → M' c = Y c) ∧ MP M' (M 81 0) (M 81 1) (jH (mC M) (M 81 0) (M 81 1) (dS (mC M) (M 81 0) (M 81 1) m).1 (mn v1 v2) (mx v1 v2)) (upI (dS (mC M) (M 81 0) (M 81 1) m).2 (mx v1 v2) 0)) := by
        have q := cm_join D Y (hI.of eY) (dS (mC M) (M 81 0) (M 81 1) m).1 (dS (mC M) (M 81 0) (M 81 1) m).2 m (by rw [eY]; exact dI) (by rw [eY]; exact hMY) v1 v2 x0 (by rw [eY]; exact x1) y0 (by rw [eY]; exact y1) (fun z => y3 z.symm) x2 y2
        rw [show mC Y = mC M by unfold mC; rw [eY], eY] at q
        exact q
      refine w_aload_n ta_150 rfl rfl ?_
      refine w_iload_n ta_150 rfl rfl ?_
      refine w_iload_n ta_150 rfl rfl ?_
      refine w_cV [_, _, _] _ ta_150 rfl rfl rfl mt_149 rfl rfl rfl rfl (Nat.le_of_ble_eq_true rfl) (fun _ => rfl) rfl (hj) ?_
      rintro X ⟨hX, hMX⟩
      refine w_iinc_1_4 ta_150 rfl rfl ?_
      refine w_goto ta_150 rfl ?_
      have g1 : d1 (mC M) (M 81 0) (M 81 1) m = v1 := hv1.symm
      have g2 : d2 (mC M) (M 81 0) (M 81 1) m = v2 := by unfold d2; rw [g1]; exact hv2.symm
      rw [show (m : Int) + 1 + 1 = ((m + 1 : Nat) : Int) + 1 by omega]
      refine ih (m + 1) (by omega) (by omega) X _ _ rfl (fun c c1 c2 => by rw [hX c (by omega) (by omega)]; exact hFY c c1 c2) ?_ (fun j j1 => ?_) ?_
      · rw [hX 80 (by decide) (by decide), ← hY, wr_s, wr_n _ _ _ (by decide), wr_n _ _ _ (by decide), e8]
        funext z
        unfold upI
        by_cases z1 : z = 21
        · rw [if_pos z1, if_pos z1]; omega
        · rw [if_neg z1, if_neg z1, if_neg z1]
      · rw [hX 92 (by decide) (by decide), hX 93 (by decide) (by decide), ← hY, wr_n _ _ _ (by decide), wr_n _ _ _ (by decide), wr_s, wr_n _ _ _ (by decide), wr_s, wr_n _ _ _ (by decide)]
        by_cases z : j = m
        · rw [z, up_s, up_s, g1, g2]
          exact ⟨rfl, rfl⟩
        · rw [up_n _ _ (by omega), up_n _ _ (by omega)]
          exact hL j (by omega)
      · rw [dS_s, g1, g2]
        exact hMX
set_option maxHeartbeats 4000000 in
set_option maxRecDepth 20000 in
theorem cm_findDifferences (D : Nat) (M : Mem) (hI : MdI M) : CV (D + 4) 150 [.inr (.inr 80)] M (fun M' => ScM M M' ∧ (∀ i, 0 ≤ i → i < M 81 0 → M' 89 i = way2 (mC M) (M 81 0) (M 81 1) i) ∧ M' 80 21 = ((M 81 0 - 1).toNat : Nat) ∧ ∀ j : Nat, j < (M 81 0 - 1).toNat → M' 92 j = d1 (mC M) (M 81 0) (M 81 1) j ∧ M' 93 j = d2 (mC M) (M 81 0) (M 81 1) j) := by
  refine mk_C mt_150 rfl (Nat.le_of_ble_eq_true rfl) (L := [some _, none, none, none]) rfl ?_
  obtain ⟨n0, n1, k0, k1, f0, f1, r0, r1, s0, s1, hA⟩ := id hI
  refine w_aload_n ta_150 rfl rfl ?_
  refine w_iconst ta_150 rfl ?_
  refine w_putI 21 ta_150 rfl rfl rfl ?_
  refine w_iconst ta_150 rfl ?_
  refine w_istn_1_4 ta_150 rfl rfl ?_
  refine lm_fd1 D M hI _ ?_ 0 (by omega) n0 _ none none rfl (fun c c1 c2 c3 => by rw [wr_n _ _ _ c1]) (wr_s _ _ _ _) (fun p p0 p1 => by omega)
  intro Z q2 q3 hq hF e8 hR
  refine w_iconst ta_150 rfl ?_
  refine w_istn_1_4 ta_150 rfl rfl ?_
  refine lm_fd3 D M hI (M 81 0 - 1).toNat 0 (by omega) (by omega) Z _ q3 hq (fun c c1 c2 => hF c c1 (by omega) (by omega)) e8 (fun j j1 => absurd j1 (by omega)) ⟨fun p p0 p1 => (hR p p0 p1).1, fun p g p0 p1 _ g0 g1 => ?_⟩
  rw [(hR p p0 p1).2 g g0 (by omega)]
  exact (bP_st p0 p1 g0 (by omega)).symm
