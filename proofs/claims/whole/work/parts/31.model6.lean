/-! the reference: ways 0 and 1, what a way gives -/
theorem sc_89_sc {M N : Mem} (h : ∀ c, c ≠ 80 → c < 88 ∨ 94 < c → N c = M c) (e : N 80 = M 80) : ScM M N := ⟨fun c hc => by
  by_cases e8 : c = 80
  · omega
  · by_cases z : c < 88 ∨ 94 < c
    · exact h c e8 z
    · omega, by rw [e], by rw [e], by rw [e]⟩
theorem ScM.I {M N : Mem} (h : ScM M N) (hI : MdI M) : MdI N := hI.of (h.1 81 (by omega))
theorem ScM.e1 {M N : Mem} (h : ScM M N) : N 81 = M 81 := h.1 81 (by omega)
set_option maxHeartbeats 4000000 in
set_option maxRecDepth 20000 in
theorem lm_findTurns (D : Nat) (M : Mem) (hI : MdI M) : ∀ i : Int, 0 ≤ i → i ≤ M 81 0 → Wp D 142 (2, [some (.inr (.inr 80)), some (.inl i)], [], setC M 89 (mdF (M 89) (M 81 1) i)) (fun r M' => r = none ∧ M' = setC M 89 (mdF (M 89) (M 81 1) (M 81 0))) := by
  obtain ⟨n0, n1, k0, k1, f0, f1, r0, r1, s0, s1, hA⟩ := id hI
  refine loopZ (M 81 0) ?_
  intro i h0 h1 ih
  refine w_iload_n ta_142 rfl rfl ?_
  refine w_aload_n ta_142 rfl rfl ?_
  refine w_getR ta_142 rfl rfl ?_
  refine w_iconst ta_142 rfl ?_
  refine w_ialoadv (v := M 81 0) ta_142 rfl rfl (by decide) (by decide) (by omega) rfl ?_
  refine w_icmp_ge ta_142 rfl ⟨by omega, by omega⟩ ⟨by omega, by omega⟩ (fun h9 => ?_) (fun h9 => ?_)
  · refine w_vret ta_142 rfl ?_
    exact ⟨rfl, by rw [show i = M 81 0 by omega]⟩
  · refine w_aload_n ta_142 rfl rfl ?_
    refine w_getR ta_142 rfl rfl ?_
    refine w_iload_n ta_142 rfl rfl ?_
    refine w_iload_n ta_142 rfl rfl ?_
    refine w_aload_n ta_142 rfl rfl ?_
    refine w_getR ta_142 rfl rfl ?_
    refine w_iconst ta_142 rfl ?_
    refine w_ialoadv (v := M 81 1) ta_142 rfl rfl (by decide) (by decide) (by omega) rfl ?_
    refine w_irem ta_142 rfl (by omega) (by omega) (by omega) (by omega) ?_
    refine w_iastore ta_142 rfl rfl (by omega) (by omega) (by omega) ?_
    refine w_iinc_1_2 ta_142 rfl rfl ?_
    refine w_goto ta_142 rfl ?_
    rw [wr_sc, mdF_s _ _ h0]
    exact ih h9
set_option maxHeartbeats 4000000 in
set_option maxRecDepth 20000 in
theorem cm_findTurns (D : Nat) (M : Mem) (hI : MdI M) : CV D 142 [.inr (.inr 80)] M (fun M' => M' = setC M 89 (mdF (M 89) (M 81 1) (M 81 0))) := by
  refine mk_C mt_142 rfl (Nat.le_of_ble_eq_true rfl) (L := [some _, none]) rfl ?_
  obtain ⟨n0, n1, k0, k1, f0, f1, r0, r1, s0, s1, hA⟩ := id hI
  refine w_iconst ta_142 rfl ?_
  refine w_istn_1_2 ta_142 rfl rfl ?_
  have q := lm_findTurns D M hI 0 (by omega) n0
  rw [mdF_0, sc_id] at q
  exact q
abbrev mW (M : Mem) : Int → Int := fun g => sumG (mC M) (M 89) (M 81 0) g
theorem mW_b {M : Mem} (h : MdI M) (g : Int) : 0 ≤ mW M g ∧ mW M g ≤ 15984 := by
  have := sumG_b (v := mC M) (h := M 89) (n := M 81 0) 999 g h.2.1 (by omega) (fun i h0 h1 => by have := h.2.2.2.2.2.2.2.2.2.2 i h0 h1; show 0 ≤ M 81 (5 + i) ∧ M 81 (5 + i) ≤ 999; omega)
  exact ⟨this.1, Int.le_trans this.2 (by omega)⟩
def SmF (M M' : Mem) : Prop := (∀ c, c ≠ 88 → M' c = M c) ∧ ∀ g, 0 ≤ g → g < 5 → M' 88 g = mW M g
theorem SmF.sc {M M' : Mem} (h : SmF M M') : ScM M M' := ⟨fun c hc => h.1 c (by omega), by rw [h.1 80 (by decide)], by rw [h.1 80 (by decide)], by rw [h.1 80 (by decide)]⟩
theorem SmF.r {M M' : Mem} (hI : MdI M) (h : SmF M M') : ∀ g, 0 ≤ g → g < 5 → inR (M' 88 g) := fun g g0 g1 => by
  rw [h.2 g g0 g1]
  have := mW_b hI g
  constructor <;> omega
theorem SmF.ls {M M' : Mem} (hI : MdI M) (h : SmF M M') : lsZ (M' 88) (M' 81 1) = lsZ (mW M) (M 81 1) := by
  rw [h.1 81 (by decide)]
  exact lsZ_cg (by have := hI.2.2.1; omega) (fun g g0 g1 => h.2 g g0 (by have := hI.2.2.2.1; omega))
theorem SmF.gr {M M' : Mem} (hI : MdI M) (h : SmF M M') : grZ (M' 88) (M' 81 1) = grZ (mW M) (M 81 1) := by
  rw [h.1 81 (by decide)]
  exact grZ_cg (by have := hI.2.2.1; omega) (fun g g0 g1 => h.2 g g0 (by have := hI.2.2.2.1; omega))
set_option maxHeartbeats 4000000 in
set_option maxRecDepth 20000 in
theorem lm_sumFound1 (D : Nat) (M : Mem) (P : Option AV → Mem → Prop) (hP : Wp (D + 0) 126 (20, [some (.inr (.inr 80)), some (.inl 5)], [], setC M 88 (filF (M 88) 0 5)) P) : ∀ i : Int, 0 ≤ i → i ≤ 5 → Wp (D + 0) 126 (2, [some (.inr (.inr 80)), some (.inl i)], [], setC M 88 (filF (M 88) 0 i)) P := by
  refine loopZ 5 ?_
  intro i h0 h1 ih
  refine w_iload_n ta_126 rfl rfl ?_
  refine w_iconst ta_126 rfl ?_
  refine w_icmp_ge ta_126 rfl ⟨by omega, by omega⟩ ⟨by omega, by omega⟩ (fun h4 => ?_) (fun h4 => ?_)
  · have e : i = 5 := by omega
    subst e
    exact hP
  · refine w_aload_n ta_126 rfl rfl ?_
    refine w_getR ta_126 rfl rfl ?_
    refine w_iload_n ta_126 rfl rfl ?_
    refine w_iconst ta_126 rfl ?_
    refine w_iastore ta_126 rfl rfl (by omega) (by omega) (by omega) ?_
    refine w_iinc_1_2 ta_126 rfl rfl ?_
    refine w_goto ta_126 rfl ?_
    rw [wr_sc, filF_s _ _ h0]
    exact ih h4
set_option maxHeartbeats 4000000 in
set_option maxRecDepth 20000 in
theorem lm_sumFound2 (D : Nat) (M : Mem) (hI : MdI M) (hh : ∀ i, 0 ≤ i → i < M 81 0 → 0 ≤ M 89 i ∧ M 89 i < M 81 1) : ∀ i : Int, 0 ≤ i → i ≤ M 81 0 → Wp D 126 (22, [some (.inr (.inr 80)), some (.inl i)], [], setC M 88 (smF (M 88) (mC M) (M 89) 5 i)) (fun r M' => r = none ∧ M' = setC M 88 (smF (M 88) (mC M) (M 89) 5 (M 81 0))) := by
  obtain ⟨n0, n1, k0, k1, f0, f1, r0, r1, s0, s1, hA⟩ := id hI
  refine loopZ (M 81 0) ?_
  intro i h0 h1 ih
  refine w_iload_n ta_126 rfl rfl ?_
  refine w_aload_n ta_126 rfl rfl ?_
  refine w_getR ta_126 rfl rfl ?_
  refine w_iconst ta_126 rfl ?_
  refine w_ialoadv (v := M 81 0) ta_126 rfl rfl (by decide) (by decide) (by omega) rfl ?_
  refine w_icmp_ge ta_126 rfl ⟨by omega, by omega⟩ ⟨by omega, by omega⟩ (fun h29 => ?_) (fun h29 => ?_)
  · refine w_vret ta_126 rfl ?_
    exact ⟨rfl, by rw [show i = M 81 0 by omega]⟩
  · have q := hA i h0 h29
    have hi := hh i h0 h29
    refine w_aload_n ta_126 rfl rfl ?_
    refine w_getR ta_126 rfl rfl ?_
    refine w_aload_n ta_126 rfl rfl ?_
    refine w_getR ta_126 rfl rfl ?_
    refine w_iload_n ta_126 rfl rfl ?_
    refine w_ialoadv (v := M 89 i) ta_126 rfl rfl (by omega) (by omega) (by omega) rfl ?_
    refine w_dup2 ta_126 rfl rfl rfl ?_
    refine w_ialoadv (v := smF (M 88) (mC M) (M 89) 5 i (M 89 i)) ta_126 rfl rfl (by omega) (by omega) (by omega) rfl ?_
    refine w_aload_n ta_126 rfl rfl ?_
    refine w_getR ta_126 rfl rfl ?_
    refine w_iconst ta_126 rfl ?_
    refine w_iload_n ta_126 rfl rfl ?_
    refine w_iadd ta_126 rfl ?_
    refine w_ialoadv (v := M 81 (5 + i)) ta_126 rfl rfl (by omega) (by omega) (by omega) rfl ?_
    refine w_iadd ta_126 rfl ?_
    refine w_iastore ta_126 rfl rfl (by omega) (by omega) (by omega) ?_
    refine w_iinc_1_2 ta_126 rfl rfl ?_
    refine w_goto ta_126 rfl ?_
    rw [wr_sc, show upI (smF (M 88) (mC M) (M 89) 5 i) (M 89 i) (smF (M 88) (mC M) (M 89) 5 i (M 89 i) + M 81 (5 + i)) = _ from smF_s (M 88) (mC M) (M 89) (m := 5) h0 (by omega) (by omega)]
    exact ih h29
set_option maxHeartbeats 4000000 in
set_option maxRecDepth 20000 in
theorem cm_sumFound (D : Nat) (M : Mem) (hI : MdI M) (hh : ∀ i, 0 ≤ i → i < M 81 0 → 0 ≤ M 89 i ∧ M 89 i < M 81 1) : CV D 126 [.inr (.inr 80)] M (fun M' => SmF M M') := by
  refine mk_C mt_126 rfl (Nat.le_of_ble_eq_true rfl) (L := [some _, none]) rfl ?_
  refine w_iconst ta_126 rfl ?_
  refine w_istn_1_2 ta_126 rfl rfl ?_
  have q := fun P hP => lm_sumFound1 D M P hP 0 (by omega) (by omega)
  simp only [filF_0, sc_id] at q
  refine q _ ?_
  refine w_iconst ta_126 rfl ?_
  refine w_istn_1_2 ta_126 rfl rfl ?_
  refine (lm_sumFound2 D M hI hh 0 (by omega) hI.1).imp ?_
  rintro r M2 ⟨hr, hM⟩
  exact ⟨hr, fun c hc => by rw [hM, sc_n _ _ hc], fun g g0 g1 => by rw [hM, sc_s]; exact smF_at g0 g1⟩
def tfF (f g : Int → Int) (i : Int) : Int → Int := fun z => if 37 ≤ z ∧ z < 37 + i then g (z - 37) else f z
theorem tfF_0 (f g : Int → Int) : tfF f g 0 = f := by funext z; exact if_neg (by omega)
theorem tfF_s (f g : Int → Int) {i : Int} (h : 0 ≤ i) : upI (tfF f g i) (37 + i) (g i) = tfF f g (i + 1) := by
  funext z
  unfold upI tfF
  by_cases e : z = 37 + i
  · subst e; rw [if_pos rfl, if_pos (by omega), show 37 + i - 37 = i by omega]
  · rw [if_neg e]
    by_cases b : 37 ≤ z ∧ z < 37 + i
    · rw [if_pos b, if_pos (by omega)]
    · rw [if_neg b, if_neg (by omega)]
theorem tfF_l (f g : Int → Int) (i : Int) {z : Int} (h : z < 37) : tfF f g i z = f z := if_neg (by omega)
theorem tfF_g (f g : Int → Int) {n i : Int} (h0 : 0 ≤ i) (h1 : i < n) : tfF f g n (37 + i) = g i := by
  unfold tfF
  rw [if_pos (by omega), show 37 + i - 37 = i by omega]
theorem tf_I {M M' : Mem} (hI : MdI M) (g : Int → Int) (h : M' 81 = tfF (M 81) g (M 81 0)) (hg : ∀ i, 0 ≤ i → i < M 81 0 → 0 ≤ g i ∧ g i < M 81 1) : MdI M' := by
  obtain ⟨n0, n1, k0, k1, f0, f1, r0, r1, s0, s1, hA⟩ := id hI
  unfold MdI
  rw [h, tfF_l _ _ _ (by omega), tfF_l _ _ _ (by omega), tfF_l _ _ _ (by omega), tfF_l _ _ _ (by omega), tfF_l _ _ _ (by omega)]
  refine ⟨n0, n1, k0, k1, f0, f1, r0, r1, s0, s1, fun i h0 h1 => ?_⟩
  rw [tfF_l _ _ _ (by omega), tfF_l _ _ _ (by omega), tfF_g _ _ h0 h1]
  have := hA i h0 h1
  have := hg i h0 h1
  omega
set_option maxHeartbeats 4000000 in
set_option maxRecDepth 20000 in
theorem lm_takeFound (D : Nat) (M : Mem) (n0 : 0 ≤ M 81 0) (n1 : M 81 0 ≤ 16) : ∀ i : Int, 0 ≤ i → i ≤ M 81 0 → Wp D 154 (2, [some (.inr (.inr 80)), some (.inl i)], [], setC M 81 (tfF (M 81) (M 89) i)) (fun r M' => r = none ∧ M' = setC M 81 (tfF (M 81) (M 89) (M 81 0))) := by
  refine loopZ (M 81 0) ?_
  intro i h0 h1 ih
  refine w_iload_n ta_154 rfl rfl ?_
  refine w_aload_n ta_154 rfl rfl ?_
  refine w_getR ta_154 rfl rfl ?_
  refine w_iconst ta_154 rfl ?_
  refine w_ialoadv (v := M 81 0) ta_154 rfl rfl (by decide) (by decide) (by omega) (by rw [sc_s, tfF_l _ _ _ (by omega)]) ?_
  refine w_icmp_ge ta_154 rfl ⟨by omega, by omega⟩ ⟨by omega, by omega⟩ (fun h9 => ?_) (fun h9 => ?_)
  · refine w_vret ta_154 rfl ?_
    exact ⟨rfl, by rw [show i = M 81 0 by omega]⟩
  · refine w_aload_n ta_154 rfl rfl ?_
    refine w_getR ta_154 rfl rfl ?_
    refine w_bipush ta_154 rfl ?_
    refine w_iload_n ta_154 rfl rfl ?_
    refine w_iadd ta_154 rfl ?_
    refine w_aload_n ta_154 rfl rfl ?_
    refine w_getR ta_154 rfl rfl ?_
    refine w_iload_n ta_154 rfl rfl ?_
    refine w_ialoadv (v := M 89 i) ta_154 rfl rfl (by omega) (by omega) (by omega) (by rw [sc_n _ _ (by decide)]) ?_
    refine w_iastore ta_154 rfl rfl (by omega) (by omega) (by omega) ?_
    refine w_iinc_1_2 ta_154 rfl rfl ?_
    refine w_goto ta_154 rfl ?_
    rw [wr_sc, tfF_s _ _ h0]
    exact ih h9
set_option maxHeartbeats 4000000 in
set_option maxRecDepth 20000 in
theorem cm_takeFound (D : Nat) (M : Mem) (n0 : 0 ≤ M 81 0) (n1 : M 81 0 ≤ 16) : CV D 154 [.inr (.inr 80)] M (fun M' => M' = setC M 81 (tfF (M 81) (M 89) (M 81 0))) := by
  refine mk_C mt_154 rfl (Nat.le_of_ble_eq_true rfl) (L := [some _, none]) rfl ?_
  refine w_iconst ta_154 rfl ?_
  refine w_istn_1_2 ta_154 rfl rfl ?_
  have q := lm_takeFound D M n0 n1 0 (by omega) n0
  rw [tfF_0, sc_id] at q
  exact q
set_option maxHeartbeats 4000000 in
set_option maxRecDepth 20000 in
theorem cm_byTurns (D : Nat) (M : Mem) (hI : MdI M) : CV (D + 1) 155 [.inr (.inr 80)] M (fun M' => (∀ c, c ≠ 81 → c ≠ 89 → M' c = M c) ∧ (∀ z, z < 37 → M' 81 z = M 81 z) ∧ ∀ i, 0 ≤ i → i < M 81 0 → M' 81 (37 + i) = i % M 81 1) := by
  refine mk_C mt_155 rfl (Nat.le_of_ble_eq_true rfl) (L := [some _]) rfl ?_
  obtain ⟨n0, n1, k0, k1, f0, f1, r0, r1, s0, s1, hA⟩ := id hI
  refine w_aload_n ta_155 rfl rfl ?_
  refine w_cV [_] _ ta_155 rfl rfl rfl mt_142 rfl rfl rfl rfl (Nat.le_of_ble_eq_true rfl) (fun _ => rfl) rfl (cm_findTurns _ M hI) ?_
  rintro M2 hM2
  have e1 : M2 81 = M 81 := by rw [hM2, sc_n _ _ (by decide)]
  refine w_aload_n ta_155 rfl rfl ?_
  refine w_cV [_] _ ta_155 rfl rfl rfl mt_154 rfl rfl rfl rfl (Nat.le_of_ble_eq_true rfl) (fun _ => rfl) rfl (cm_takeFound _ M2 (by rw [e1]; exact n0) (by rw [e1]; exact n1)) ?_
  rintro M3 hM3
  refine w_vret ta_155 rfl ?_
  refine ⟨rfl, fun c c1 c2 => by rw [hM3, sc_n _ _ c1, hM2, sc_n _ _ c2], fun z hz => by rw [hM3, sc_s, tfF_l _ _ _ hz, e1], fun i i0 i1 => ?_⟩
  rw [hM3, sc_s, e1, tfF_g _ _ i0 i1, hM2, sc_s]
  exact if_pos ⟨i0, i1⟩
set_option maxHeartbeats 4000000 in
set_option maxRecDepth 20000 in
theorem lm_moved (D : Nat) (M : Mem) (hI : MdI M) (hh : ∀ i, 0 ≤ i → i < M 81 0 → 0 ≤ M 89 i ∧ M 89 i < M 81 1) : ∀ i : Int, 0 ≤ i → i ≤ M 81 0 → Wp (D + 1) 159 (4, [some (.inr (.inr 80)), some (.inl (sumZ (fun j => if M 89 j ≠ mG M j then 1 else 0) i)), some (.inl i)], [], M) (fun r M' => ∃ v, r = some (.inl v) ∧ (v = sumZ (fun j => if M 89 j ≠ mG M j then 1 else 0) (M 81 0) ∧ M' = M)) := by
  obtain ⟨n0, n1, k0, k1, f0, f1, r0, r1, s0, s1, hA⟩ := id hI
  refine loopZ (M 81 0) ?_
  intro i h0 h1 ih
  refine w_iload_n ta_159 rfl rfl ?_
  refine w_aload_n ta_159 rfl rfl ?_
  refine w_getR ta_159 rfl rfl ?_
  refine w_iconst ta_159 rfl ?_
  refine w_iaload ta_159 rfl rfl (by decide) (by decide) (by omega) ?_
  refine w_icmp_ge ta_159 rfl ⟨by omega, by omega⟩ ⟨by omega, by omega⟩ (fun h11 => ?_) (fun h11 => ?_)
  · refine w_iload_n ta_159 rfl rfl ?_
    refine w_iret ta_159 rfl (Or.inl rfl) ?_
    exact ⟨_, rfl, by rw [show i = M 81 0 by omega], rfl⟩
  · have q := hA i h0 h11
    have hi := hh i h0 h11
    have ih := ih h11
    rw [sumZ_s _ h0] at ih
    replace ih : Wp (D + 1) _ (4, [some (.inr (.inr 80)), some (.inl (sumZ (fun j => if M 89 j ≠ mG M j then 1 else 0) i + (if M 89 i ≠ M 81 (37 + i) then 1 else 0))), some (.inl (i + 1))], [], M) _ := ih
    refine w_iload_n ta_159 rfl rfl ?_
    refine w_aload_n ta_159 rfl rfl ?_
    refine w_getR ta_159 rfl rfl ?_
    refine w_iload_n ta_159 rfl rfl ?_
    refine w_iaload ta_159 rfl rfl (by omega) (by omega) (by omega) ?_
    refine w_aload_n ta_159 rfl rfl ?_
    refine w_getR ta_159 rfl rfl ?_
    refine w_bipush ta_159 rfl ?_
    refine w_iload_n ta_159 rfl rfl ?_
    refine w_iadd ta_159 rfl ?_
    refine w_iaload ta_159 rfl rfl (by omega) (by omega) (by omega) ?_
    refine w_icmp_eq ta_159 rfl ⟨by omega, by omega⟩ ⟨by omega, by omega⟩ (fun h30 => ?_) (fun h30 => ?_)
    · refine w_iconst ta_159 rfl ?_
      refine w_cI [_] _ ta_159 rfl rfl rfl mt_107 rfl rfl rfl rfl (Nat.le_of_ble_eq_true rfl) (fun q => by cases q) rfl (cm_flag _ _ M (by omega)) ?_
      rintro w M3 ⟨hw, rfl⟩
      refine w_iadd ta_159 rfl ?_
      refine w_istn_1_3 ta_159 rfl rfl ?_
      refine w_iinc_2_3 ta_159 rfl rfl ?_
      refine w_goto ta_159 rfl ?_
      first
        | (rw [if_pos (by omega)] at ih; subst hw; exact ih)
        | (rw [if_neg (by omega)] at ih; subst hw; exact ih)
    · refine w_iconst ta_159 rfl ?_
      refine w_goto ta_159 rfl ?_
      refine w_cI [_] _ ta_159 rfl rfl rfl mt_107 rfl rfl rfl rfl (Nat.le_of_ble_eq_true rfl) (fun q => by cases q) rfl (cm_flag _ _ M (by omega)) ?_
      rintro w M3 ⟨hw, rfl⟩
      refine w_iadd ta_159 rfl ?_
      refine w_istn_1_3 ta_159 rfl rfl ?_
      refine w_iinc_2_3 ta_159 rfl rfl ?_
      refine w_goto ta_159 rfl ?_
      first
        | (rw [if_pos (by omega)] at ih; subst hw; exact ih)
        | (rw [if_neg (by omega)] at ih; subst hw; exact ih)
set_option maxHeartbeats 4000000 in
set_option maxRecDepth 20000 in
theorem cm_moved (D : Nat) (M : Mem) (hI : MdI M) (hh : ∀ i, 0 ≤ i → i < M 81 0 → 0 ≤ M 89 i ∧ M 89 i < M 81 1) : CI (D + 1) 159 [.inr (.inr 80)] M (fun v M' => v = sumZ (fun j => if M 89 j ≠ mG M j then 1 else 0) (M 81 0) ∧ M' = M) := by
  refine mk_C mt_159 rfl (Nat.le_of_ble_eq_true rfl) (L := [some _, none, none]) rfl ?_
  obtain ⟨n0, n1, k0, k1, f0, f1, r0, r1, s0, s1, hA⟩ := id hI
  refine w_iconst ta_159 rfl ?_
  refine w_istn_1_3 ta_159 rfl rfl ?_
  refine w_iconst ta_159 rfl ?_
  refine w_istn_2_3 ta_159 rfl rfl ?_
  exact lm_moved D M hI hh 0 (by omega) (by omega)
set_option maxHeartbeats 4000000 in
set_option maxRecDepth 20000 in
theorem cm_boundNow (D : Nat) (M : Mem) (hI : MdI M) : CI (D + 1) 162 [.inr (.inr 80)] M (fun v M' => v = sumZ (mC M) (M 81 0) / M 81 1 ∧ M' = M) := by
  refine mk_C mt_162 rfl (Nat.le_of_ble_eq_true rfl) (L := [some _]) rfl ?_
  obtain ⟨n0, n1, k0, k1, f0, f1, r0, r1, s0, s1, hA⟩ := id hI
  refine w_aload_n ta_162 rfl rfl ?_
  refine w_iconst ta_162 rfl ?_
  refine w_cI [_, _] _ ta_162 rfl rfl rfl mt_131 rfl rfl rfl rfl (Nat.le_of_ble_eq_true rfl) (fun _ => rfl) rfl (cm_all _ M hI 5 (by omega) (by omega)) ?_
  rintro v M2 ⟨hv, rfl⟩
  have bv := sumZ_b (f := mC M2) (n := M2 81 0) 999 n1 (by omega) (fun i i0 i1 => by have := hA i i0 i1; show 0 ≤ M2 81 (5 + i) ∧ M2 81 (5 + i) ≤ 999; omega)
  have hv : v = sumZ (mC M2) (M2 81 0) := hv
  rw [← hv] at bv ⊢
  refine w_aload_n ta_162 rfl rfl ?_
  refine w_getR ta_162 rfl rfl ?_
  refine w_iconst ta_162 rfl ?_
  refine w_iaload ta_162 rfl rfl (by decide) (by decide) (by omega) ?_
  refine w_idiv ta_162 rfl (by omega) (by omega) (by omega) (by omega) ?_
  refine w_iret ta_162 rfl (Or.inl rfl) ?_
  exact ⟨_, rfl, rfl, rfl⟩
theorem wkS_o {ch s0 : Int → Int} {n k : Int} (hk : 1 ≤ k) : ∀ (r : Nat) (g : Int), k ≤ g → wkS ch n k s0 r g = s0 g
  | 0, _, _ => rfl
  | r + 1, g, hg => by
    have b := flZ_b (wkS ch n k s0 r) hk
    simp only [wkS]
    rw [up_n _ _ (by omega)]
    exact wkS_o hk r g hg
theorem wk_mem2 {N : Mem} {f g : Int → Int} {i v j w : Int} : wr (wr (setC (setC N 89 f) 88 g) 89 i v) 88 j w = setC (setC N 89 (upI f i v)) 88 (upI g j w) := by
  funext c
  by_cases h4 : c = 89
  · subst h4; rfl
  · by_cases h5 : c = 88
    · subst h5; rfl
    · simp only [wr, setC, h4, h5, if_false]
/-- the memory r steps on -/
def wkM (M : Mem) (sa : Int → Int) (r : Nat) : Mem := setC (setC M 89 (wkH (mC M) (M 81 0) (M 81 1) sa (M 89) r)) 88 (wkS (mC M) (M 81 0) (M 81 1) sa r)
theorem wkM_e (M : Mem) (sa : Int → Int) (r : Nat) {c : Nat} (h1 : c ≠ 88) (h2 : c ≠ 89) : wkM M sa r c = M c := by
  unfold wkM
  rw [sc_n _ _ h1, sc_n _ _ h2]
theorem wkM_0 (M : Mem) : wkM M (M 88) 0 = M := by
  show setC (setC M 89 (M 89)) 88 (M 88) = M
  rw [sc_id, sc_id]
theorem wkM_I {M : Mem} (hI : MdI M) (sa : Int → Int) (r : Nat) : MdI (wkM M sa r) := hI.of (wkM_e M sa r (by decide) (by decide))
theorem wkM_r {M : Mem} (hI : MdI M) {sa : Int → Int} (hs : ∀ g, 0 ≤ g → g < 5 → sa g = 0) {r : Nat} (hr : (r : Int) ≤ M 81 0) : ∀ g, 0 ≤ g → g < 5 → 0 ≤ wkM M sa r 88 g ∧ wkM M sa r 88 g ≤ 15984 := by
  obtain ⟨n0, n1, k0, k1, f0, f1, r0, r1, s0, s1, hA⟩ := id hI
  intro g g0 g1
  unfold wkM
  rw [sc_s]
  by_cases e : g < M 81 1
  · have := wkS_b (ch := mC M) (s0 := sa) (n := M 81 0) (k := M 81 1) (by omega) (fun g g0 g1 => hs g g0 (by omega)) (fun i i0 i1 => by have := hA i i0 i1; show 1 ≤ M 81 (5 + i) ∧ M 81 (5 + i) ≤ 999; omega) r hr g g0 e
    omega
  · rw [wkS_o (by omega) _ _ (by omega), hs g g0 g1]
    omega
set_option maxHeartbeats 4000000 in
set_option maxRecDepth 20000 in
theorem lm_findWeakest2 (D : Nat) (M : Mem) (hI : MdI M) (sa : Int → Int) (hs : ∀ g, 0 ≤ g → g < 5 → sa g = 0) (r : Int) (h0 : 0 ≤ r) (h1 : r < M 81 0) (P : Option AV → Mem → Prop) (hP : ∀ q, Wp (D + 2) 143 (88, [some (.inr (.inr 80)), some (.inl r), some (.inl (M 81 0)), q], [], wkM M sa (r.toNat + 1)) P) : ∀ i : Int, 0 ≤ i → i ≤ M 81 0 → ∀ q, Wp (D + 2) 143 (34, [some (.inr (.inr 80)), some (.inl r), some (.inl i), q], [], if ordZ (mC M) (M 81 0) r < i then wkM M sa (r.toNat + 1) else wkM M sa r.toNat) P := by
  obtain ⟨n0, n1, k0, k1, f0, f1, r0, r1, s0, s1, hA⟩ := id hI
  have ob := ordZ_b (mC M) h0 h1
  refine loopZ (M 81 0) ?_
  intro i i0 i1 ih q
  generalize hN : (if ordZ (mC M) (M 81 0) r < i then wkM M sa (r.toNat + 1) else wkM M sa r.toNat) = N
  have eN : N 81 = M 81 := by rw [← hN]; split <;> exact wkM_e M sa _ (by decide) (by decide)
  have eC : mC N = mC M := by unfold mC; rw [eN]
  have hIN : MdI N := hI.of eN
  have hN := hN.symm
  refine w_iload_n ta_143 rfl rfl ?_
  refine w_aload_n ta_143 rfl rfl ?_
  refine w_getR ta_143 rfl rfl ?_
  refine w_iconst ta_143 rfl ?_
  refine w_ialoadv (v := M 81 0) ta_143 rfl rfl (by decide) (by decide) (by omega) (by rw [eN]) ?_
  refine w_icmp_ge ta_143 rfl ⟨by omega, by omega⟩ ⟨by omega, by omega⟩ (fun h41 => ?_) (fun h41 => ?_)
  · have e : i = M 81 0 := by omega
    rw [hN, if_pos (by omega), e]
    exact hP q
  · have rb := rkZ_b (mC M) i0 h41
    refine w_aload_n ta_143 rfl rfl ?_
    refine w_iload_n ta_143 rfl rfl ?_
    refine w_cI [_, _] _ ta_143 rfl rfl rfl mt_135 rfl rfl rfl rfl (Nat.le_of_ble_eq_true rfl) (fun _ => rfl) rfl (cm_rank _ N hIN i i0 (by rw [eN]; exact h41)) ?_
    rintro v N2 ⟨hv, rfl⟩
    rw [eC, eN] at hv
    refine w_iload_n ta_143 rfl rfl ?_
    refine w_icmp_ne ta_143 rfl ⟨by omega, by omega⟩ ⟨by omega, by omega⟩ (fun h50 => ?_) (fun h50 => ?_)
    · have ne : i ≠ ordZ (mC M) (M 81 0) r := fun z => h50 (by rw [hv, z, ob.2.2])
      refine w_iinc_2_4 ta_143 rfl rfl ?_
      refine w_goto ta_143 rfl ?_
      have q := ih h41 q
      rw [hN]
      by_cases z : ordZ (mC M) (M 81 0) r < i
      · rw [if_pos (by omega)] at q ⊢
        exact q
      · rw [if_neg (by omega)] at q ⊢
        exact q
    · have ie : i = ordZ (mC M) (M 81 0) r := by rw [← h50, hv, ordZ_at _ i0 h41]
      have hN' : N2 = wkM M sa r.toNat := by rw [hN, if_neg (by omega)]
      rw [hN']
      refine w_aload_n ta_143 rfl rfl ?_
      refine w_cI [_] _ ta_143 rfl rfl rfl mt_127 rfl rfl rfl rfl (Nat.le_of_ble_eq_true rfl) (fun _ => rfl) rfl (cm_weakest _ _ (wkM_I hI sa r.toNat) (fun g g0 g1 => by have := wkM_r hI hs (r := r.toNat) (by omega) g g0 g1; constructor <;> omega)) ?_
      rintro w N3 ⟨hw, rfl⟩
      rw [wkM_e M sa r.toNat (c := 81) (by decide) (by decide)] at hw
      have wb := flZ_b (wkM M sa r.toNat 88) (k := M 81 1) (by omega)
      rw [← hw] at wb
      refine w_istn_3_4 ta_143 rfl rfl ?_
      refine w_aload_n ta_143 rfl rfl ?_
      refine w_getR ta_143 rfl rfl ?_
      refine w_iload_n ta_143 rfl rfl ?_
      refine w_iload_n ta_143 rfl rfl ?_
      refine w_iastore ta_143 rfl rfl (by omega) (by omega) (by omega) ?_
      refine w_aload_n ta_143 rfl rfl ?_
      refine w_getR ta_143 rfl rfl ?_
      refine w_iload_n ta_143 rfl rfl ?_
      refine w_dup2 ta_143 rfl rfl rfl ?_
      refine w_ialoadv (v := wkM M sa r.toNat 88 w) ta_143 rfl rfl (by omega) (by omega) (by omega) rfl ?_
      refine w_aload_n ta_143 rfl rfl ?_
      refine w_getR ta_143 rfl rfl ?_
      refine w_iconst ta_143 rfl ?_
      refine w_iload_n ta_143 rfl rfl ?_
      refine w_iadd ta_143 rfl ?_
      refine w_ialoadv (v := M 81 (5 + i)) ta_143 rfl rfl (by omega) (by omega) (by omega) (by rw [wr_n _ _ _ (by decide), wkM_e M sa r.toNat (by decide) (by decide)]) ?_
      refine w_iadd ta_143 rfl ?_
      refine w_iastore ta_143 rfl rfl (by omega) (by omega) (by omega) ?_
      refine w_iinc_2_4 ta_143 rfl rfl ?_
      refine w_goto ta_143 rfl ?_
      have q := ih h41 (some (.inl w))
      rw [if_pos (by omega)] at q
      have em : wr (wr (wkM M sa r.toNat) 89 i w) 88 w (wkM M sa r.toNat 88 w + M 81 (5 + i)) = wkM M sa (r.toNat + 1) := by
        show wr (wr (setC (setC M 89 (wkH (mC M) (M 81 0) (M 81 1) sa (M 89) r.toNat)) 88 (wkS (mC M) (M 81 0) (M 81 1) sa r.toNat)) 89 i w) 88 w _ = _
        rw [wk_mem2]
        have hw2 : w = flZ (wkS (mC M) (M 81 0) (M 81 1) sa r.toNat) (M 81 1) := hw
        show _ = setC (setC M 89 (upI (wkH (mC M) (M 81 0) (M 81 1) sa (M 89) r.toNat) (ordZ (mC M) (M 81 0) ((r.toNat : Nat) : Int)) (flZ (wkS (mC M) (M 81 0) (M 81 1) sa r.toNat) (M 81 1)))) 88 (upI (wkS (mC M) (M 81 0) (M 81 1) sa r.toNat) (flZ (wkS (mC M) (M 81 0) (M 81 1) sa r.toNat) (M 81 1)) (wkS (mC M) (M 81 0) (M 81 1) sa r.toNat (flZ (wkS (mC M) (M 81 0) (M 81 1) sa r.toNat) (M 81 1)) + mC M (ordZ (mC M) (M 81 0) ((r.toNat : Nat) : Int))))
        rw [show ((r.toNat : Nat) : Int) = r by omega, ← ie, ← hw2]
        rfl
      rw [em]
      exact q
set_option maxHeartbeats 4000000 in
set_option maxRecDepth 20000 in
theorem lm_findWeakest1 (D : Nat) (M : Mem) (P : Option AV → Mem → Prop) (hP : Wp (D + 2) 143 (20, [some (.inr (.inr 80)), some (.inl 5), none, none], [], setC M 88 (filF (M 88) 0 5)) P) : ∀ i : Int, 0 ≤ i → i ≤ 5 → Wp (D + 2) 143 (2, [some (.inr (.inr 80)), some (.inl i), none, none], [], setC M 88 (filF (M 88) 0 i)) P := by
  refine loopZ 5 ?_
  intro i h0 h1 ih
  refine w_iload_n ta_143 rfl rfl ?_
  refine w_iconst ta_143 rfl ?_
  refine w_icmp_ge ta_143 rfl ⟨by omega, by omega⟩ ⟨by omega, by omega⟩ (fun h4 => ?_) (fun h4 => ?_)
  · have e : i = 5 := by omega
    subst e
    exact hP
  · refine w_aload_n ta_143 rfl rfl ?_
    refine w_getR ta_143 rfl rfl ?_
    refine w_iload_n ta_143 rfl rfl ?_
    refine w_iconst ta_143 rfl ?_
    refine w_iastore ta_143 rfl rfl (by omega) (by omega) (by omega) ?_
    refine w_iinc_1_4 ta_143 rfl rfl ?_
    refine w_goto ta_143 rfl ?_
    rw [wr_sc, filF_s _ _ h0]
    exact ih h4
set_option maxHeartbeats 4000000 in
set_option maxRecDepth 20000 in
theorem lm_findWeakest3 (D : Nat) (M : Mem) (hI : MdI M) (sa : Int → Int) (hs : ∀ g, 0 ≤ g → g < 5 → sa g = 0) : ∀ r : Int, 0 ≤ r → r ≤ M 81 0 → ∀ q q2, isLg q = false → Wp (D + 2) 143 (22, [some (.inr (.inr 80)), some (.inl r), q, q2], [], wkM M sa r.toNat) (fun r M' => r = none ∧ M' = wkM M sa (M 81 0).toNat) := by
  obtain ⟨n0, n1, k0, k1, f0, f1, r0, r1, s0, s1, hA⟩ := id hI
  refine loopZ (M 81 0) ?_
  intro r h0 h1 ih q q2 hq
  refine w_iload_n ta_143 rfl rfl ?_
  refine w_aload_n ta_143 rfl rfl ?_
  refine w_getR ta_143 rfl rfl ?_
  refine w_iconst ta_143 rfl ?_
  refine w_ialoadv (v := M 81 0) ta_143 rfl rfl (by decide) (by decide) (by omega) (by rw [wkM_e M sa r.toNat (by decide) (by decide)]) ?_
  refine w_icmp_ge ta_143 rfl ⟨by omega, by omega⟩ ⟨by omega, by omega⟩ (fun h29 => ?_) (fun h29 => ?_)
  · refine w_vret ta_143 rfl ?_
    exact ⟨rfl, by rw [show r = M 81 0 by omega]⟩
  · refine w_iconst ta_143 rfl ?_
    refine w_istn_2_4 ta_143 rfl rfl ?_
    have q := fun P hP => lm_findWeakest2 D M hI sa hs r h0 h29 P hP 0 (by omega) (by omega) q2
    rw [if_neg (by have := (ordZ_b (mC M) h0 h29).1; omega)] at q
    refine q _ (fun q3 => ?_)
    refine w_iinc_1_4 ta_143 rfl rfl ?_
    refine w_goto ta_143 rfl ?_
    have ih := ih h29 (some (.inl (M 81 0))) q3 rfl
    rw [show (r + 1).toNat = r.toNat + 1 by omega] at ih
    exact ih
set_option maxHeartbeats 4000000 in
set_option maxRecDepth 20000 in
theorem cm_findWeakest (D : Nat) (M : Mem) (hI : MdI M) : CV (D + 2) 143 [.inr (.inr 80)] M (fun M' => (∀ c, c ≠ 88 → c ≠ 89 → M' c = M c) ∧ ∀ i, 0 ≤ i → i < M 81 0 → M' 89 i = way1 (mC M) (M 81 0) (M 81 1) i) := by
  refine mk_C mt_143 rfl (Nat.le_of_ble_eq_true rfl) (L := [some _, none, none, none]) rfl ?_
  obtain ⟨n0, n1, k0, k1, f0, f1, r0, r1, s0, s1, hA⟩ := id hI
  refine w_iconst ta_143 rfl ?_
  refine w_istn_1_4 ta_143 rfl rfl ?_
  have q := fun P hP => lm_findWeakest1 D M P hP 0 (by omega) (by omega)
  simp only [filF_0, sc_id] at q
  refine q _ ?_
  refine w_iconst ta_143 rfl ?_
  refine w_istn_1_4 ta_143 rfl rfl ?_
  have hs : ∀ g, 0 ≤ g → g < 5 → setC M 88 (filF (M 88) 0 5) 88 g = 0 := fun g g0 g1 => by rw [sc_s]; exact if_pos ⟨g0, g1⟩
  have e1 : setC M 88 (filF (M 88) 0 5) 81 = M 81 := sc_n _ _ (by decide)
  have q := lm_findWeakest3 D (setC M 88 (filF (M 88) 0 5)) (hI.of e1) _ hs 0 (by omega) (by rw [e1]; exact n0) none none rfl
  rw [show (0 : Int).toNat = 0 from rfl, wkM_0] at q
  refine q.imp ?_
  rintro r M2 ⟨hr, hM2⟩
  refine ⟨hr, fun c c1 c2 => by rw [hM2, wkM_e _ _ _ c1 c2, sc_n _ _ c1], fun i i0 i1 => ?_⟩
  rw [hM2]
  unfold wkM
  rw [sc_n _ _ (by decide), sc_s]
  show wkH (fun i => setC M 88 (filF (M 88) 0 5) 81 (5 + i)) (setC M 88 (filF (M 88) 0 5) 81 0) (setC M 88 (filF (M 88) 0 5) 81 1) _ _ (setC M 88 (filF (M 88) 0 5) 81 0).toNat i = _
  rw [e1]
  have rb := rkZ_b (mC M) i0 i1
  exact wkH_cg (ch := mC M) (by omega) (fun g g0 g1 => hs g g0 (by omega)) (fun _ _ _ => rfl) _ (by omega) i i0 i1 (by omega)
