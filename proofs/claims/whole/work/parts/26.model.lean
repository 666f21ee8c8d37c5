/-! the reference: its own small methods -/
abbrev mC (M : Mem) : Int → Int := fun i => M 81 (5 + i)
abbrev mH (M : Mem) : Int → Int := fun i => M 81 (21 + i)
abbrev mG (M : Mem) : Int → Int := fun i => M 81 (37 + i)
def MdI (M : Mem) : Prop := 0 ≤ M 81 0 ∧ M 81 0 ≤ 16 ∧ 2 ≤ M 81 1 ∧ M 81 1 ≤ 5 ∧ 0 ≤ M 81 2 ∧ M 81 2 ≤ 999 ∧ 1 ≤ M 81 3 ∧ M 81 3 ≤ 99 ∧ 0 ≤ M 81 4 ∧ M 81 4 ≤ 99 ∧ ∀ i, 0 ≤ i → i < M 81 0 → 1 ≤ M 81 (5 + i) ∧ M 81 (5 + i) ≤ 999 ∧ 0 ≤ M 81 (21 + i) ∧ M 81 (21 + i) ≤ 999 ∧ 0 ≤ M 81 (37 + i) ∧ M 81 (37 + i) < M 81 1
theorem MdI.of {M M' : Mem} (h : MdI M) (e : M' 81 = M 81) : MdI M' := by
  unfold MdI
  rw [e]
  exact h
/-- sums of the reference: by what is told from a place on -/
abbrev mS (M : Mem) (v : Int) : Int → Int := fun g => sumG (fun i => M 81 (v + i)) (mG M) (M 81 0) g
theorem mS_b {M : Mem} (h : MdI M) {v : Int} (hv : v = 5 ∨ v = 21) (g : Int) : 0 ≤ mS M v g ∧ mS M v g ≤ 15984 := by
  have := sumG_b (v := fun i => M 81 (v + i)) (h := mG M) (n := M 81 0) 999 g h.2.1 (by omega) (fun i h0 h1 => by have := h.2.2.2.2.2.2.2.2.2.2 i h0 h1; rcases hv with rfl | rfl <;> omega)
  exact ⟨this.1, Int.le_trans this.2 (by omega)⟩
def SmM (v : Int) (M M' : Mem) : Prop := (∀ c, c ≠ 88 → M' c = M c) ∧ ∀ g, 0 ≤ g → g < 5 → M' 88 g = mS M v g
theorem SmM.I {v : Int} {M M' : Mem} (h : SmM v M M') (q : MdI M) : MdI M' := q.of (h.1 81 (by decide))
set_option maxHeartbeats 4000000 in
set_option maxRecDepth 20000 in
theorem cm_in (D : Nat) (v a b : Int) (M : Mem) (hv : inR64 v) (ha : inR64 a) (hb : inR64 b) : CI D 106 [.inr (.inl v), .inr (.inl a), .inr (.inl b)] M (fun r M' => ((r = 1 ∧ a ≤ v ∧ v ≤ b) ∨ (r = 0 ∧ ¬ (a ≤ v ∧ v ≤ b))) ∧ M' = M) := by
  refine mk_C mt_106 rfl (Nat.le_of_ble_eq_true rfl) (L := [some _, none, some _, none, some _, none]) rfl ?_
  refine w_lload_n ta_106 rfl rfl ?_
  refine w_lload_n ta_106 rfl rfl ?_
  refine w_lcmp ta_106 rfl (by assumption) (by assumption) ?_
  refine w_if_lt ta_106 rfl (by split <;> (try split) <;> decide) (fun h3 => ?_) (fun h3 => ?_)
  · have q3 : v < a := by
      rcases Int.lt_trichotomy a v with z | z | z
      · rw [if_pos z] at h3; omega
      · rw [if_neg (by omega), if_pos z.symm] at h3; omega
      · exact z
    refine w_iconst ta_106 rfl ?_
    refine w_iret ta_106 rfl (Or.inr ⟨rfl, by omega⟩) ?_
    exact ⟨_, rfl, by omega, rfl⟩
  · have q3 : a ≤ v := by
      rcases Int.lt_trichotomy a v with z | z | z
      · omega
      · omega
      · rw [if_neg (by omega), if_neg (by omega)] at h3; omega
    refine w_lload_n ta_106 rfl rfl ?_
    refine w_lload ta_106 rfl rfl ?_
    refine w_lcmp ta_106 rfl (by assumption) (by assumption) ?_
    refine w_if_gt ta_106 rfl (by split <;> (try split) <;> decide) (fun h10 => ?_) (fun h10 => ?_)
    · have q10 : b < v := by
        rcases Int.lt_trichotomy b v with z | z | z
        · exact z
        · rw [if_neg (by omega), if_pos z.symm] at h10; omega
        · rw [if_neg (by omega), if_neg (by omega)] at h10; omega
      refine w_iconst ta_106 rfl ?_
      refine w_iret ta_106 rfl (Or.inr ⟨rfl, by omega⟩) ?_
      exact ⟨_, rfl, by omega, rfl⟩
    · have q10 : v ≤ b := by
        rcases Int.lt_trichotomy b v with z | z | z
        · rw [if_pos z] at h10; omega
        · omega
        · omega
      refine w_iconst ta_106 rfl ?_
      refine w_goto ta_106 rfl ?_
      refine w_iret ta_106 rfl (Or.inr ⟨rfl, by omega⟩) ?_
      exact ⟨_, rfl, by omega, rfl⟩
set_option maxHeartbeats 4000000 in
set_option maxRecDepth 20000 in
theorem cm_flag (D : Nat) (v : Int) (M : Mem) (hv : v = 0 ∨ v = 1) : CI D 107 [.inl v] M (fun r M' => r = v ∧ M' = M) := by
  refine mk_C mt_107 rfl (Nat.le_of_ble_eq_true rfl) (L := [some _]) rfl ?_
  refine w_iload_n ta_107 rfl rfl ?_
  refine w_if_eq ta_107 rfl ⟨by omega, by omega⟩ (fun h1 => ?_) (fun h1 => ?_)
  · refine w_iconst ta_107 rfl ?_
    refine w_iret ta_107 rfl (Or.inl rfl) ?_
    exact ⟨_, rfl, by omega, rfl⟩
  · refine w_iconst ta_107 rfl ?_
    refine w_goto ta_107 rfl ?_
    refine w_iret ta_107 rfl (Or.inl rfl) ?_
    exact ⟨_, rfl, by omega, rfl⟩
set_option maxHeartbeats 4000000 in
set_option maxRecDepth 20000 in
theorem cm_isCell (D : Nat) (M : Mem) (hI : MdI M) (x : Int) (hx : inR x) : CI (D + 1) 123 [.inr (.inr 80), .inl x] M (fun v M' => ((v = 1 ∧ 0 ≤ x ∧ x < M 81 0) ∨ (v = 0 ∧ ¬ (0 ≤ x ∧ x < M 81 0))) ∧ M' = M) := by
  refine mk_C mt_123 rfl (Nat.le_of_ble_eq_true rfl) (L := [some _, some _]) rfl ?_
  obtain ⟨n0, n1, k0, k1, f0, f1, r0, r1, s0, s1, hA⟩ := id hI
  obtain ⟨x0, x1⟩ := id hx
  refine w_iload_n ta_123 rfl rfl ?_
  refine w_i2l ta_123 rfl ⟨by omega, by omega⟩ ?_
  refine w_lconst ta_123 rfl ?_
  refine w_aload_n ta_123 rfl rfl ?_
  refine w_getR ta_123 rfl rfl ?_
  refine w_iconst ta_123 rfl ?_
  refine w_iaload ta_123 rfl rfl (by decide) (by decide) (by omega) ?_
  refine w_iconst ta_123 rfl ?_
  refine w_isub ta_123 rfl ?_
  refine w_i2l ta_123 rfl ⟨by omega, by omega⟩ ?_
  refine w_cI [_, _, _] _ ta_123 rfl rfl rfl mt_106 rfl rfl rfl rfl (Nat.le_of_ble_eq_true rfl) (fun q => by cases q) rfl (cm_in _ x 0 _ M (by constructor <;> omega) (by constructor <;> omega) (by constructor <;> omega)) ?_
  rintro v M2 ⟨hv, rfl⟩
  refine w_iret ta_123 rfl (Or.inr ⟨rfl, by omega⟩) ?_
  exact ⟨_, rfl, by omega, rfl⟩
set_option maxHeartbeats 4000000 in
set_option maxRecDepth 20000 in
theorem cm_isGroup (D : Nat) (M : Mem) (hI : MdI M) (x : Int) (hx : inR x) : CI (D + 1) 124 [.inr (.inr 80), .inl x] M (fun v M' => ((v = 1 ∧ 0 ≤ x ∧ x < M 81 1) ∨ (v = 0 ∧ ¬ (0 ≤ x ∧ x < M 81 1))) ∧ M' = M) := by
  refine mk_C mt_124 rfl (Nat.le_of_ble_eq_true rfl) (L := [some _, some _]) rfl ?_
  obtain ⟨n0, n1, k0, k1, f0, f1, r0, r1, s0, s1, hA⟩ := id hI
  obtain ⟨x0, x1⟩ := id hx
  refine w_iload_n ta_124 rfl rfl ?_
  refine w_i2l ta_124 rfl ⟨by omega, by omega⟩ ?_
  refine w_lconst ta_124 rfl ?_
  refine w_aload_n ta_124 rfl rfl ?_
  refine w_getR ta_124 rfl rfl ?_
  refine w_iconst ta_124 rfl ?_
  refine w_iaload ta_124 rfl rfl (by decide) (by decide) (by omega) ?_
  refine w_iconst ta_124 rfl ?_
  refine w_isub ta_124 rfl ?_
  refine w_i2l ta_124 rfl ⟨by omega, by omega⟩ ?_
  refine w_cI [_, _, _] _ ta_124 rfl rfl rfl mt_106 rfl rfl rfl rfl (Nat.le_of_ble_eq_true rfl) (fun q => by cases q) rfl (cm_in _ x 0 _ M (by constructor <;> omega) (by constructor <;> omega) (by constructor <;> omega)) ?_
  rintro v M2 ⟨hv, rfl⟩
  refine w_iret ta_124 rfl (Or.inr ⟨rfl, by omega⟩) ?_
  exact ⟨_, rfl, by omega, rfl⟩
set_option maxHeartbeats 4000000 in
set_option maxRecDepth 20000 in
theorem cm_isWay (D : Nat) (M : Mem) (x : Int) (hx : inR x) : CI (D + 1) 156 [.inr (.inr 80), .inl x] M (fun v M' => ((v = 1 ∧ 0 ≤ x ∧ x < 4) ∨ (v = 0 ∧ ¬ (0 ≤ x ∧ x < 4))) ∧ M' = M) := by
  refine mk_C mt_156 rfl (Nat.le_of_ble_eq_true rfl) (L := [some _, some _]) rfl ?_
  obtain ⟨x0, x1⟩ := id hx
  refine w_iload_n ta_156 rfl rfl ?_
  refine w_i2l ta_156 rfl ⟨by omega, by omega⟩ ?_
  refine w_lconst ta_156 rfl ?_
  refine w_ldc2_w ta_156 rfl ?_
  refine w_cI [_, _, _] _ ta_156 rfl rfl rfl mt_106 rfl rfl rfl rfl (Nat.le_of_ble_eq_true rfl) (fun q => by cases q) rfl (cm_in _ x 0 3 M (by constructor <;> omega) (by constructor <;> omega) (by constructor <;> omega)) ?_
  rintro v M2 ⟨hv, rfl⟩
  refine w_iret ta_156 rfl (Or.inr ⟨rfl, by omega⟩) ?_
  exact ⟨_, rfl, by omega, rfl⟩
set_option maxHeartbeats 4000000 in
set_option maxRecDepth 20000 in
theorem cm_isTooMuch (D : Nat) (M : Mem) (hI : MdI M) (x : Int) (hx : inR x) : CI D 157 [.inr (.inr 80), .inl x] M (fun v M' => ((v = 0 ∧ (x ≠ 3 ∨ M 81 0 ≤ 9)) ∨ (v = 1 ∧ x = 3 ∧ 9 < M 81 0)) ∧ M' = M) := by
  refine mk_C mt_157 rfl (Nat.le_of_ble_eq_true rfl) (L := [some _, some _]) rfl ?_
  obtain ⟨n0, n1, k0, k1, f0, f1, r0, r1, s0, s1, hA⟩ := id hI
  obtain ⟨x0, x1⟩ := id hx
  refine w_iload_n ta_157 rfl rfl ?_
  refine w_iconst ta_157 rfl ?_
  refine w_icmp_ne ta_157 rfl ⟨by omega, by omega⟩ ⟨by omega, by omega⟩ (fun h2 => ?_) (fun h2 => ?_)
  · refine w_iconst ta_157 rfl ?_
    refine w_iret ta_157 rfl (Or.inr ⟨rfl, by omega⟩) ?_
    exact ⟨_, rfl, by omega, rfl⟩
  · refine w_aload_n ta_157 rfl rfl ?_
    refine w_getR ta_157 rfl rfl ?_
    refine w_iconst ta_157 rfl ?_
    refine w_iaload ta_157 rfl rfl (by decide) (by decide) (by omega) ?_
    refine w_bipush ta_157 rfl ?_
    refine w_icmp_le ta_157 rfl ⟨by omega, by omega⟩ ⟨by omega, by omega⟩ (fun h13 => ?_) (fun h13 => ?_)
    · refine w_iconst ta_157 rfl ?_
      refine w_iret ta_157 rfl (Or.inr ⟨rfl, by omega⟩) ?_
      exact ⟨_, rfl, by omega, rfl⟩
    · refine w_iconst ta_157 rfl ?_
      refine w_goto ta_157 rfl ?_
      refine w_iret ta_157 rfl (Or.inr ⟨rfl, by omega⟩) ?_
      exact ⟨_, rfl, by omega, rfl⟩
set_option maxHeartbeats 4000000 in
set_option maxRecDepth 20000 in
theorem lm_sumNow1 (D : Nat) (M : Mem) (v : Int) (P : Option AV → Mem → Prop) (hP : Wp D 125 (20, [some (.inr (.inr 80)), some (.inl v), some (.inl 5)], [], setC M 88 (filF (M 88) 0 5)) P) : ∀ i : Int, 0 ≤ i → i ≤ 5 → Wp D 125 (2, [some (.inr (.inr 80)), some (.inl v), some (.inl i)], [], setC M 88 (filF (M 88) 0 i)) P := by
  refine loopZ 5 ?_
  intro i h0 h1 ih
  refine w_iload_n ta_125 rfl rfl ?_
  refine w_iconst ta_125 rfl ?_
  refine w_icmp_ge ta_125 rfl ⟨by omega, by omega⟩ ⟨by omega, by omega⟩ (fun h4 => ?_) (fun h4 => ?_)
  · have e : i = 5 := by omega
    subst e
    exact hP
  · refine w_aload_n ta_125 rfl rfl ?_
    refine w_getR ta_125 rfl rfl ?_
    refine w_iload_n ta_125 rfl rfl ?_
    refine w_iconst ta_125 rfl ?_
    refine w_iastore ta_125 rfl rfl (by omega) (by omega) (by omega) ?_
    refine w_iinc_2_3 ta_125 rfl rfl ?_
    refine w_goto ta_125 rfl ?_
    rw [wr_sc, filF_s _ _ h0]
    exact ih h4
set_option maxHeartbeats 4000000 in
set_option maxRecDepth 20000 in
theorem lm_sumNow2 (D : Nat) (M : Mem) (hI : MdI M) (v : Int) (v0 : 0 ≤ v) (v1 : v ≤ 37) : ∀ i : Int, 0 ≤ i → i ≤ M 81 0 → Wp D 125 (22, [some (.inr (.inr 80)), some (.inl v), some (.inl i)], [], setC M 88 (smF (M 88) (fun i => M 81 (v + i)) (mG M) 5 i)) (fun r M' => r = none ∧ M' = setC M 88 (smF (M 88) (fun i => M 81 (v + i)) (mG M) 5 (M 81 0))) := by
  obtain ⟨n0, n1, k0, k1, f0, f1, r0, r1, s0, s1, hA⟩ := id hI
  refine loopZ (M 81 0) ?_
  intro i h0 h1 ih
  refine w_iload_n ta_125 rfl rfl ?_
  refine w_aload_n ta_125 rfl rfl ?_
  refine w_getR ta_125 rfl rfl ?_
  refine w_iconst ta_125 rfl ?_
  refine w_ialoadv (v := M 81 0) ta_125 rfl rfl (by decide) (by decide) (by omega) rfl ?_
  refine w_icmp_ge ta_125 rfl ⟨by omega, by omega⟩ ⟨by omega, by omega⟩ (fun h29 => ?_) (fun h29 => ?_)
  · refine w_vret ta_125 rfl ?_
    exact ⟨rfl, by rw [show i = M 81 0 by omega]⟩
  · have q := hA i h0 h29
    refine w_aload_n ta_125 rfl rfl ?_
    refine w_getR ta_125 rfl rfl ?_
    refine w_aload_n ta_125 rfl rfl ?_
    refine w_getR ta_125 rfl rfl ?_
    refine w_bipush ta_125 rfl ?_
    refine w_iload_n ta_125 rfl rfl ?_
    refine w_iadd ta_125 rfl ?_
    refine w_ialoadv (v := M 81 (37 + i)) ta_125 rfl rfl (by omega) (by omega) (by omega) rfl ?_
    refine w_dup2 ta_125 rfl rfl rfl ?_
    refine w_ialoadv (v := smF (M 88) (fun i => M 81 (v + i)) (mG M) 5 i (M 81 (37 + i))) ta_125 rfl rfl (by omega) (by omega) (by omega) rfl ?_
    refine w_aload_n ta_125 rfl rfl ?_
    refine w_getR ta_125 rfl rfl ?_
    refine w_iload_n ta_125 rfl rfl ?_
    refine w_iload_n ta_125 rfl rfl ?_
    refine w_iadd ta_125 rfl ?_
    refine w_ialoadv (v := M 81 (v + i)) ta_125 rfl rfl (by omega) (by omega) (by omega) rfl ?_
    refine w_iadd ta_125 rfl ?_
    refine w_iastore ta_125 rfl rfl (by omega) (by omega) (by omega) ?_
    refine w_iinc_2_3 ta_125 rfl rfl ?_
    refine w_goto ta_125 rfl ?_
    rw [wr_sc, show upI (smF (M 88) (fun i => M 81 (v + i)) (mG M) 5 i) (M 81 (37 + i)) (smF (M 88) (fun i => M 81 (v + i)) (mG M) 5 i (M 81 (37 + i)) + M 81 (v + i)) = _ from smF_s (M 88) (fun i => M 81 (v + i)) (mG M) (m := 5) h0 (by show 0 ≤ M 81 (37 + i); omega) (by show M 81 (37 + i) < 5; omega)]
    exact ih h29
set_option maxHeartbeats 4000000 in
set_option maxRecDepth 20000 in
theorem cm_sumNow (D : Nat) (M : Mem) (hI : MdI M) (v : Int) (v0 : 0 ≤ v) (v1 : v ≤ 37) : CV D 125 [.inr (.inr 80), .inl v] M (fun M' => SmM v M M') := by
  refine mk_C mt_125 rfl (Nat.le_of_ble_eq_true rfl) (L := [some _, some _, none]) rfl ?_
  refine w_iconst ta_125 rfl ?_
  refine w_istn_2_3 ta_125 rfl rfl ?_
  have q := fun P hP => lm_sumNow1 D M v P hP 0 (by omega) (by omega)
  simp only [filF_0, sc_id] at q
  refine q _ ?_
  refine w_iconst ta_125 rfl ?_
  refine w_istn_2_3 ta_125 rfl rfl ?_
  refine (lm_sumNow2 D M hI v v0 v1 0 (by omega) hI.1).imp ?_
  rintro r M2 ⟨hr, hM⟩
  exact ⟨hr, fun c hc => by rw [hM, sc_n _ _ hc], fun g g0 g1 => by rw [hM, sc_s]; exact smF_at g0 g1⟩
set_option maxHeartbeats 4000000 in
set_option maxRecDepth 20000 in
theorem lm_weakest (D : Nat) (M : Mem) (hI : MdI M) (hr : ∀ g, 0 ≤ g → g < 5 → inR (M 88 g)) : ∀ i : Int, 1 ≤ i → i ≤ M 81 1 → Wp D 127 (4, [some (.inr (.inr 80)), some (.inl (flZ (M 88) i)), some (.inl i)], [], M) (fun r M' => ∃ v, r = some (.inl v) ∧ (v = flZ (M 88) (M 81 1) ∧ M' = M)) := by
  obtain ⟨n0, n1, k0, k1, f0, f1, r0, r1, s0, s1, hA⟩ := id hI
  refine loopO 1 (M 81 1) ?_
  intro i h0 h1 ih
  refine w_iload_n ta_127 rfl rfl ?_
  refine w_aload_n ta_127 rfl rfl ?_
  refine w_getR ta_127 rfl rfl ?_
  refine w_iconst ta_127 rfl ?_
  refine w_iaload ta_127 rfl rfl (by decide) (by decide) (by omega) ?_
  refine w_icmp_ge ta_127 rfl ⟨by omega, by omega⟩ ⟨by omega, by omega⟩ (fun h11 => ?_) (fun h11 => ?_)
  · refine w_iload_n ta_127 rfl rfl ?_
    refine w_iret ta_127 rfl (Or.inl rfl) ?_
    exact ⟨_, rfl, by rw [show i = M 81 1 by omega], rfl⟩
  · obtain ⟨b1, b2⟩ := hr i (by omega) (by omega)
    have b3 := flZ_b (M 88) h0
    obtain ⟨b4, b5⟩ := hr (flZ (M 88) i) b3.1 (by omega)
    have e := flZ_s (M 88) h0
    have ih := ih h11
    rw [e] at ih
    refine w_aload_n ta_127 rfl rfl ?_
    refine w_getR ta_127 rfl rfl ?_
    refine w_iload_n ta_127 rfl rfl ?_
    refine w_iaload ta_127 rfl rfl (by omega) (by omega) (by omega) ?_
    refine w_aload_n ta_127 rfl rfl ?_
    refine w_getR ta_127 rfl rfl ?_
    refine w_iload_n ta_127 rfl rfl ?_
    refine w_iaload ta_127 rfl rfl (by omega) (by omega) (by omega) ?_
    refine w_icmp_ge ta_127 rfl ⟨by omega, by omega⟩ ⟨by omega, by omega⟩ (fun h26 => ?_) (fun h26 => ?_)
    · rw [if_neg (by omega)] at ih
      refine w_iload_n ta_127 rfl rfl ?_
      refine w_istn_1_3 ta_127 rfl rfl ?_
      refine w_iinc_2_3 ta_127 rfl rfl ?_
      refine w_goto ta_127 rfl ?_
      exact ih
    · rw [if_pos (by omega)] at ih
      refine w_iload_n ta_127 rfl rfl ?_
      refine w_goto ta_127 rfl ?_
      refine w_istn_1_3 ta_127 rfl rfl ?_
      refine w_iinc_2_3 ta_127 rfl rfl ?_
      refine w_goto ta_127 rfl ?_
      exact ih
set_option maxHeartbeats 4000000 in
set_option maxRecDepth 20000 in
theorem cm_weakest (D : Nat) (M : Mem) (hI : MdI M) (hr : ∀ g, 0 ≤ g → g < 5 → inR (M 88 g)) : CI D 127 [.inr (.inr 80)] M (fun v M' => v = flZ (M 88) (M 81 1) ∧ M' = M) := by
  refine mk_C mt_127 rfl (Nat.le_of_ble_eq_true rfl) (L := [some _, none, none]) rfl ?_
  refine w_iconst ta_127 rfl ?_
  refine w_istn_1_3 ta_127 rfl rfl ?_
  refine w_iconst ta_127 rfl ?_
  refine w_istn_2_3 ta_127 rfl rfl ?_
  exact lm_weakest D M hI hr 1 (by omega) (by have := hI.2.2.1; omega)
set_option maxHeartbeats 4000000 in
set_option maxRecDepth 20000 in
theorem cm_least (D : Nat) (M : Mem) (hI : MdI M) (hr : ∀ g, 0 ≤ g → g < 5 → inR (M 88 g)) : CI (D + 1) 128 [.inr (.inr 80)] M (fun v M' => v = lsZ (M 88) (M 81 1) ∧ M' = M) := by
  refine mk_C mt_128 rfl (Nat.le_of_ble_eq_true rfl) (L := [some _]) rfl ?_
  obtain ⟨n0, n1, k0, k1, f0, f1, r0, r1, s0, s1, hA⟩ := id hI
  refine w_aload_n ta_128 rfl rfl ?_
  refine w_getR ta_128 rfl rfl ?_
  refine w_aload_n ta_128 rfl rfl ?_
  refine w_cI [_] _ ta_128 rfl rfl rfl mt_127 rfl rfl rfl rfl (Nat.le_of_ble_eq_true rfl) (fun _ => rfl) rfl (cm_weakest _ M hI hr) ?_
  rintro v M2 ⟨rfl, rfl⟩
  have b := flZ_b (M2 88) (k := M2 81 1) (by omega)
  refine w_iaload ta_128 rfl rfl (by omega) (by omega) (by omega) ?_
  refine w_iret ta_128 rfl (Or.inl rfl) ?_
  exact ⟨_, rfl, rfl, rfl⟩
set_option maxHeartbeats 4000000 in
set_option maxRecDepth 20000 in
theorem lm_greatest (D : Nat) (M : Mem) (hI : MdI M) (hr : ∀ g, 0 ≤ g → g < 5 → inR (M 88 g)) : ∀ i : Int, 1 ≤ i → i ≤ M 81 1 → inR (grZ (M 88) i) → Wp D 129 (9, [some (.inr (.inr 80)), some (.inl (grZ (M 88) i)), some (.inl i)], [], M) (fun r M' => ∃ v, r = some (.inl v) ∧ (v = grZ (M 88) (M 81 1) ∧ M' = M)) := by
  obtain ⟨n0, n1, k0, k1, f0, f1, r0, r1, s0, s1, hA⟩ := id hI
  refine loopO 1 (M 81 1) ?_
  intro i h0 h1 ih hg
  refine w_iload_n ta_129 rfl rfl ?_
  refine w_aload_n ta_129 rfl rfl ?_
  refine w_getR ta_129 rfl rfl ?_
  refine w_iconst ta_129 rfl ?_
  refine w_iaload ta_129 rfl rfl (by decide) (by decide) (by omega) ?_
  refine w_icmp_ge ta_129 rfl ⟨by omega, by omega⟩ ⟨by omega, by omega⟩ (fun h16 => ?_) (fun h16 => ?_)
  · refine w_iload_n ta_129 rfl rfl ?_
    refine w_iret ta_129 rfl (Or.inl rfl) ?_
    exact ⟨_, rfl, by rw [show i = M 81 1 by omega], rfl⟩
  · obtain ⟨b1, b2⟩ := hr i (by omega) (by omega)
    obtain ⟨b3, b4⟩ := hg
    have e := grZ_s (M 88) h0
    have ih := ih h16
    rw [e] at ih
    refine w_aload_n ta_129 rfl rfl ?_
    refine w_getR ta_129 rfl rfl ?_
    refine w_iload_n ta_129 rfl rfl ?_
    refine w_iaload ta_129 rfl rfl (by omega) (by omega) (by omega) ?_
    refine w_iload_n ta_129 rfl rfl ?_
    refine w_icmp_le ta_129 rfl ⟨by omega, by omega⟩ ⟨by omega, by omega⟩ (fun h26 => ?_) (fun h26 => ?_)
    · rw [if_neg (by omega)] at ih
      refine w_iload_n ta_129 rfl rfl ?_
      refine w_istn_1_3 ta_129 rfl rfl ?_
      refine w_iinc_2_3 ta_129 rfl rfl ?_
      refine w_goto ta_129 rfl ?_
      exact ih (by constructor <;> omega)
    · rw [if_pos (by omega)] at ih
      refine w_aload_n ta_129 rfl rfl ?_
      refine w_getR ta_129 rfl rfl ?_
      refine w_iload_n ta_129 rfl rfl ?_
      refine w_iaload ta_129 rfl rfl (by omega) (by omega) (by omega) ?_
      refine w_goto ta_129 rfl ?_
      refine w_istn_1_3 ta_129 rfl rfl ?_
      refine w_iinc_2_3 ta_129 rfl rfl ?_
      refine w_goto ta_129 rfl ?_
      exact ih (by constructor <;> omega)
set_option maxHeartbeats 4000000 in
set_option maxRecDepth 20000 in
theorem cm_greatest (D : Nat) (M : Mem) (hI : MdI M) (hr : ∀ g, 0 ≤ g → g < 5 → inR (M 88 g)) : CI D 129 [.inr (.inr 80)] M (fun v M' => v = grZ (M 88) (M 81 1) ∧ M' = M) := by
  refine mk_C mt_129 rfl (Nat.le_of_ble_eq_true rfl) (L := [some _, none, none]) rfl ?_
  refine w_aload_n ta_129 rfl rfl ?_
  refine w_getR ta_129 rfl rfl ?_
  refine w_iconst ta_129 rfl ?_
  refine w_iaload ta_129 rfl rfl (by decide) (by decide) (by omega) ?_
  refine w_istn_1_3 ta_129 rfl rfl ?_
  refine w_iconst ta_129 rfl ?_
  refine w_istn_2_3 ta_129 rfl rfl ?_
  exact lm_greatest D M hI hr 1 (by omega) (by have := hI.2.2.1; omega) (hr 0 (by omega) (by omega))
theorem SmM.ls {v : Int} {M M' : Mem} (hI : MdI M) (h : SmM v M M') : lsZ (M' 88) (M' 81 1) = lsZ (mS M v) (M 81 1) := by
  rw [h.1 81 (by decide)]
  exact lsZ_cg (by have := hI.2.2.1; omega) (fun g g0 g1 => h.2 g g0 (by have := hI.2.2.2.1; omega))
theorem SmM.fl {v : Int} {M M' : Mem} (hI : MdI M) (h : SmM v M M') : flZ (M' 88) (M' 81 1) = flZ (mS M v) (M 81 1) := by
  rw [h.1 81 (by decide)]
  exact flZ_cg (by have := hI.2.2.1; omega) (fun g g0 g1 => h.2 g g0 (by have := hI.2.2.2.1; omega))
theorem SmM.gr {v : Int} {M M' : Mem} (hI : MdI M) (h : SmM v M M') : grZ (M' 88) (M' 81 1) = grZ (mS M v) (M 81 1) := by
  rw [h.1 81 (by decide)]
  exact grZ_cg (by have := hI.2.2.1; omega) (fun g g0 g1 => h.2 g g0 (by have := hI.2.2.2.1; omega))
set_option maxHeartbeats 4000000 in
set_option maxRecDepth 20000 in
theorem cm_weakestNow (D : Nat) (M : Mem) (hI : MdI M) : CI (D + 1) 132 [.inr (.inr 80)] M (fun v M' => v = flZ (mS M 21) (M 81 1) ∧ SmM 21 M M') := by
  refine mk_C mt_132 rfl (Nat.le_of_ble_eq_true rfl) (L := [some _]) rfl ?_
  refine w_aload_n ta_132 rfl rfl ?_
  refine w_bipush ta_132 rfl ?_
  refine w_cV [_, _] _ ta_132 rfl rfl rfl mt_125 rfl rfl rfl rfl (Nat.le_of_ble_eq_true rfl) (fun _ => rfl) rfl (cm_sumNow _ M hI 21 (by omega) (by omega)) ?_
  rintro M2 hS
  refine w_aload_n ta_132 rfl rfl ?_
  refine w_cI [_] _ ta_132 rfl rfl rfl mt_127 rfl rfl rfl rfl (Nat.le_of_ble_eq_true rfl) (fun _ => rfl) rfl (cm_weakest _ M2 (hS.I hI) (fun g g0 g1 => by have := mS_b hI (Or.inr rfl) g; rw [hS.2 g g0 g1]; exact ⟨by omega, by omega⟩)) ?_
  rintro v M3 ⟨hv, rfl⟩
  refine w_iret ta_132 rfl (Or.inl rfl) ?_
  exact ⟨_, rfl, hv.trans (hS.fl hI), hS⟩
set_option maxHeartbeats 4000000 in
set_option maxRecDepth 20000 in
theorem cm_leastNow (D : Nat) (M : Mem) (hI : MdI M) (v : Int) (hv : v = 5 ∨ v = 21) : CI (D + 2) 133 [.inr (.inr 80), .inl v] M (fun w M' => w = lsZ (mS M v) (M 81 1) ∧ SmM v M M') := by
  refine mk_C mt_133 rfl (Nat.le_of_ble_eq_true rfl) (L := [some _, some _]) rfl ?_
  refine w_aload_n ta_133 rfl rfl ?_
  refine w_iload_n ta_133 rfl rfl ?_
  refine w_cV [_, _] _ ta_133 rfl rfl rfl mt_125 rfl rfl rfl rfl (Nat.le_of_ble_eq_true rfl) (fun _ => rfl) rfl (cm_sumNow _ M hI v (by omega) (by omega)) ?_
  rintro M2 hS
  refine w_aload_n ta_133 rfl rfl ?_
  refine w_cI [_] _ ta_133 rfl rfl rfl mt_128 rfl rfl rfl rfl (Nat.le_of_ble_eq_true rfl) (fun _ => rfl) rfl (cm_least _ M2 (hS.I hI) (fun g g0 g1 => by have := mS_b hI hv g; rw [hS.2 g g0 g1]; exact ⟨by omega, by omega⟩)) ?_
  rintro w M3 ⟨hw, rfl⟩
  refine w_iret ta_133 rfl (Or.inl rfl) ?_
  exact ⟨_, rfl, hw.trans (hS.ls hI), hS⟩
set_option maxHeartbeats 4000000 in
set_option maxRecDepth 20000 in
theorem cm_spreadNow (D : Nat) (M : Mem) (hI : MdI M) : CI (D + 2) 130 [.inr (.inr 80)] M (fun v M' => v = grZ (mS M 21) (M 81 1) - lsZ (mS M 21) (M 81 1) ∧ SmM 21 M M') := by
  refine mk_C mt_130 rfl (Nat.le_of_ble_eq_true rfl) (L := [some _]) rfl ?_
  refine w_aload_n ta_130 rfl rfl ?_
  refine w_bipush ta_130 rfl ?_
  refine w_cV [_, _] _ ta_130 rfl rfl rfl mt_125 rfl rfl rfl rfl (Nat.le_of_ble_eq_true rfl) (fun _ => rfl) rfl (cm_sumNow _ M hI 21 (by omega) (by omega)) ?_
  rintro M2 hS
  have hr : ∀ g, 0 ≤ g → g < 5 → inR (M2 88 g) := (fun g g0 g1 => by have := mS_b hI (Or.inr rfl) g; rw [hS.2 g g0 g1]; exact ⟨by omega, by omega⟩)
  refine w_aload_n ta_130 rfl rfl ?_
  refine w_cI [_] _ ta_130 rfl rfl rfl mt_129 rfl rfl rfl rfl (Nat.le_of_ble_eq_true rfl) (fun _ => rfl) rfl (cm_greatest _ M2 (hS.I hI) hr) ?_
  rintro v M3 ⟨hv, rfl⟩
  refine w_aload_n ta_130 rfl rfl ?_
  refine w_cI [_] _ ta_130 rfl rfl rfl mt_128 rfl rfl rfl rfl (Nat.le_of_ble_eq_true rfl) (fun _ => rfl) rfl (cm_least _ M3 (hS.I hI) hr) ?_
  rintro w M4 ⟨hw, rfl⟩
  refine w_isub ta_130 rfl ?_
  refine w_iret ta_130 rfl (Or.inl rfl) ?_
  exact ⟨_, rfl, by rw [hv, hw, hS.ls hI, hS.gr hI], hS⟩
set_option maxHeartbeats 4000000 in
set_option maxRecDepth 20000 in
theorem cm_sumOf (D : Nat) (M : Mem) (hI : MdI M) (g : Int) (g0 : 0 ≤ g) (g1 : g < M 81 1) : CI (D + 1) 140 [.inr (.inr 80), .inl g] M (fun v M' => v = mS M 21 g ∧ SmM 21 M M') := by
  refine mk_C mt_140 rfl (Nat.le_of_ble_eq_true rfl) (L := [some _, some _]) rfl ?_
  obtain ⟨n0, n1, k0, k1, f0, f1, r0, r1, s0, s1, hA⟩ := id hI
  refine w_aload_n ta_140 rfl rfl ?_
  refine w_bipush ta_140 rfl ?_
  refine w_cV [_, _] _ ta_140 rfl rfl rfl mt_125 rfl rfl rfl rfl (Nat.le_of_ble_eq_true rfl) (fun _ => rfl) rfl (cm_sumNow _ M hI 21 (by omega) (by omega)) ?_
  rintro M2 hS
  refine w_aload_n ta_140 rfl rfl ?_
  refine w_getR ta_140 rfl rfl ?_
  refine w_iload_n ta_140 rfl rfl ?_
  refine w_iaload ta_140 rfl rfl (by omega) (by omega) (by omega) ?_
  refine w_iret ta_140 rfl (Or.inl rfl) ?_
  exact ⟨_, rfl, hS.2 g g0 (by omega), hS⟩
set_option maxHeartbeats 4000000 in
set_option maxRecDepth 20000 in
theorem lm_all (D : Nat) (M : Mem) (hI : MdI M) (v : Int) (v0 : 0 ≤ v) (v1 : v ≤ 37) : ∀ i : Int, 0 ≤ i → i ≤ M 81 0 → Wp D 131 (4, [some (.inr (.inr 80)), some (.inl v), some (.inl (sumZ (fun i => M 81 (v + i)) i)), some (.inl i)], [], M) (fun r M' => ∃ w, r = some (.inl w) ∧ (w = sumZ (fun i => M 81 (v + i)) (M 81 0) ∧ M' = M)) := by
  obtain ⟨n0, n1, k0, k1, f0, f1, r0, r1, s0, s1, hA⟩ := id hI
  refine loopZ (M 81 0) ?_
  intro i h0 h1 ih
  refine w_iload_n ta_131 rfl rfl ?_
  refine w_aload_n ta_131 rfl rfl ?_
  refine w_getR ta_131 rfl rfl ?_
  refine w_iconst ta_131 rfl ?_
  refine w_iaload ta_131 rfl rfl (by decide) (by decide) (by omega) ?_
  refine w_icmp_ge ta_131 rfl ⟨by omega, by omega⟩ ⟨by omega, by omega⟩ (fun h11 => ?_) (fun h11 => ?_)
  · refine w_iload_n ta_131 rfl rfl ?_
    refine w_iret ta_131 rfl (Or.inl rfl) ?_
    exact ⟨_, rfl, by rw [show i = M 81 0 by omega], rfl⟩
  · have ih := ih h11
    rw [sumZ_s _ h0] at ih
    refine w_iload_n ta_131 rfl rfl ?_
    refine w_aload_n ta_131 rfl rfl ?_
    refine w_getR ta_131 rfl rfl ?_
    refine w_iload_n ta_131 rfl rfl ?_
    refine w_iload_n ta_131 rfl rfl ?_
    refine w_iadd ta_131 rfl ?_
    refine w_iaload ta_131 rfl rfl (by omega) (by omega) (by omega) ?_
    refine w_iadd ta_131 rfl ?_
    refine w_istn_2_4 ta_131 rfl rfl ?_
    refine w_iinc_3_4 ta_131 rfl rfl ?_
    refine w_goto ta_131 rfl ?_
    exact ih
set_option maxHeartbeats 4000000 in
set_option maxRecDepth 20000 in
theorem cm_all (D : Nat) (M : Mem) (hI : MdI M) (v : Int) (v0 : 0 ≤ v) (v1 : v ≤ 37) : CI D 131 [.inr (.inr 80), .inl v] M (fun w M' => w = sumZ (fun i => M 81 (v + i)) (M 81 0) ∧ M' = M) := by
  refine mk_C mt_131 rfl (Nat.le_of_ble_eq_true rfl) (L := [some _, some _, none, none]) rfl ?_
  refine w_iconst ta_131 rfl ?_
  refine w_istn_2_4 ta_131 rfl rfl ?_
  refine w_iconst ta_131 rfl ?_
  refine w_istn_3_4 ta_131 rfl rfl ?_
  exact lm_all D M hI v v0 v1 0 (by omega) hI.1
/-- only scratch cells of the reference have changed -/
def ScM (M M' : Mem) : Prop := (∀ c, c < 80 ∨ (81 ≤ c ∧ c ≤ 83) ∨ c = 86 ∨ 95 ≤ c → M' c = M c) ∧ M' 80 7 = M 80 7 ∧ M' 80 12 = M 80 12 ∧ M' 80 25 = M 80 25
theorem ScM.rf (M : Mem) : ScM M M := ⟨fun _ _ => rfl, rfl, rfl, rfl⟩
theorem ScM.tr {M M' M'' : Mem} (h : ScM M M') (g : ScM M' M'') : ScM M M'' := ⟨fun c hc => (g.1 c hc).trans (h.1 c hc), g.2.1.trans h.2.1, g.2.2.1.trans h.2.2.1, g.2.2.2.trans h.2.2.2⟩
theorem SmM.sc {v : Int} {M M' : Mem} (h : SmM v M M') : ScM M M' := ⟨fun c hc => h.1 c (by omega), by rw [h.1 80 (by decide)], by rw [h.1 80 (by decide)], by rw [h.1 80 (by decide)]⟩
set_option maxHeartbeats 4000000 in
set_option maxRecDepth 20000 in
theorem cm_rule (D : Nat) (M : Mem) (hI : MdI M) (x : Int) (hx : inR x) : CI (D + 3) 134 [.inr (.inr 80), .inl x] M (fun v M' => v = ruZ x (M 81 0) (M 81 1) (M 81 2) (M 81 3) (M 81 4) (mC M) (mH M) (mG M) ∧ ScM M M') := by
  refine mk_C mt_134 rfl (Nat.le_of_ble_eq_true rfl) (L := [some _, some _]) rfl ?_
  obtain ⟨n0, n1, k0, k1, f0, f1, r0, r1, s0, s1, hA⟩ := id hI
  obtain ⟨x0, x1⟩ := id hx
  refine w_iload_n ta_134 rfl rfl ?_
  rcases (show x = 0 ∨ x = 1 ∨ x = 2 ∨ x = 3 ∨ x = 4 ∨ x = 5 ∨ x = 6 ∨ x = 7 ∨ x = 8 ∨ x = 9 ∨ (x < 0 ∨ 9 < x) by omega) with h1 | h1 | h1 | h1 | h1 | h1 | h1 | h1 | h1 | h1 | h1
  · refine w_tsw 56 ta_134 rfl hx (by rw [h1]; rfl) ?_
    refine w_aload_n ta_134 rfl rfl ?_
    refine w_getR ta_134 rfl rfl ?_
    refine w_iload_n ta_134 rfl rfl ?_
    refine w_iaload ta_134 rfl rfl (by omega) (by omega) (by omega) ?_
    refine w_iret ta_134 rfl (Or.inl rfl) ?_
    exact ⟨_, rfl, by rw [h1]; rfl, ScM.rf _⟩
  · refine w_tsw 56 ta_134 rfl hx (by rw [h1]; rfl) ?_
    refine w_aload_n ta_134 rfl rfl ?_
    refine w_getR ta_134 rfl rfl ?_
    refine w_iload_n ta_134 rfl rfl ?_
    refine w_iaload ta_134 rfl rfl (by omega) (by omega) (by omega) ?_
    refine w_iret ta_134 rfl (Or.inl rfl) ?_
    exact ⟨_, rfl, by rw [h1]; rfl, ScM.rf _⟩
  · refine w_tsw 56 ta_134 rfl hx (by rw [h1]; rfl) ?_
    refine w_aload_n ta_134 rfl rfl ?_
    refine w_getR ta_134 rfl rfl ?_
    refine w_iload_n ta_134 rfl rfl ?_
    refine w_iaload ta_134 rfl rfl (by omega) (by omega) (by omega) ?_
    refine w_iret ta_134 rfl (Or.inl rfl) ?_
    exact ⟨_, rfl, by rw [h1]; rfl, ScM.rf _⟩
  · refine w_tsw 56 ta_134 rfl hx (by rw [h1]; rfl) ?_
    refine w_aload_n ta_134 rfl rfl ?_
    refine w_getR ta_134 rfl rfl ?_
    refine w_iload_n ta_134 rfl rfl ?_
    refine w_iaload ta_134 rfl rfl (by omega) (by omega) (by omega) ?_
    refine w_iret ta_134 rfl (Or.inl rfl) ?_
    exact ⟨_, rfl, by rw [h1]; rfl, ScM.rf _⟩
  · refine w_tsw 56 ta_134 rfl hx (by rw [h1]; rfl) ?_
    refine w_aload_n ta_134 rfl rfl ?_
    refine w_getR ta_134 rfl rfl ?_
    refine w_iload_n ta_134 rfl rfl ?_
    refine w_iaload ta_134 rfl rfl (by omega) (by omega) (by omega) ?_
    refine w_iret ta_134 rfl (Or.inl rfl) ?_
    exact ⟨_, rfl, by rw [h1]; rfl, ScM.rf _⟩
  · refine w_tsw 63 ta_134 rfl hx (by rw [h1]; rfl) ?_
    refine w_aload_n ta_134 rfl rfl ?_
    refine w_cI [_] _ ta_134 rfl rfl rfl mt_132 rfl rfl rfl rfl (Nat.le_of_ble_eq_true rfl) (fun _ => rfl) rfl (cm_weakestNow _ M hI) ?_
    rintro v M2 ⟨rfl, hS⟩
    refine w_iret ta_134 rfl (Or.inl rfl) ?_
    exact ⟨_, rfl, by rw [h1]; rfl, hS.sc⟩
  · refine w_tsw 68 ta_134 rfl hx (by rw [h1]; rfl) ?_
    refine w_aload_n ta_134 rfl rfl ?_
    refine w_bipush ta_134 rfl ?_
    refine w_cI [_, _] _ ta_134 rfl rfl rfl mt_133 rfl rfl rfl rfl (Nat.le_of_ble_eq_true rfl) (fun _ => rfl) rfl (cm_leastNow _ M hI 21 (Or.inr rfl)) ?_
    rintro v M2 ⟨rfl, hS⟩
    refine w_iret ta_134 rfl (Or.inl rfl) ?_
    exact ⟨_, rfl, by rw [h1]; rfl, hS.sc⟩
  · refine w_tsw 75 ta_134 rfl hx (by rw [h1]; rfl) ?_
    refine w_aload_n ta_134 rfl rfl ?_
    refine w_cI [_] _ ta_134 rfl rfl rfl mt_130 rfl rfl rfl rfl (Nat.le_of_ble_eq_true rfl) (fun _ => rfl) rfl (cm_spreadNow _ M hI) ?_
    rintro v M2 ⟨rfl, hS⟩
    refine w_iret ta_134 rfl (Or.inl rfl) ?_
    exact ⟨_, rfl, by rw [h1]; rfl, hS.sc⟩
  · refine w_tsw 80 ta_134 rfl hx (by rw [h1]; rfl) ?_
    refine w_aload_n ta_134 rfl rfl ?_
    refine w_bipush ta_134 rfl ?_
    refine w_cI [_, _] _ ta_134 rfl rfl rfl mt_131 rfl rfl rfl rfl (Nat.le_of_ble_eq_true rfl) (fun _ => rfl) rfl (cm_all _ M hI 21 (by omega) (by omega)) ?_
    rintro v M2 ⟨rfl, rfl⟩
    refine w_iret ta_134 rfl (Or.inl rfl) ?_
    exact ⟨_, rfl, by rw [h1]; rfl, ScM.rf _⟩
  · refine w_tsw 87 ta_134 rfl hx (by rw [h1]; rfl) ?_
    refine w_aload_n ta_134 rfl rfl ?_
    refine w_iconst ta_134 rfl ?_
    refine w_cI [_, _] _ ta_134 rfl rfl rfl mt_131 rfl rfl rfl rfl (Nat.le_of_ble_eq_true rfl) (fun _ => rfl) rfl (cm_all _ M hI 5 (by omega) (by omega)) ?_
    rintro v M2 ⟨rfl, rfl⟩
    refine w_iret ta_134 rfl (Or.inl rfl) ?_
    exact ⟨_, rfl, by rw [h1]; rfl, ScM.rf _⟩
  · refine w_tsw 93 ta_134 rfl hx (if_pos h1) ?_
    refine w_iconst ta_134 rfl ?_
    refine w_iret ta_134 rfl (Or.inl rfl) ?_
    refine ⟨_, rfl, ?_, ScM.rf _⟩
    unfold ruZ
    repeat rw [if_neg (by omega)]
set_option maxHeartbeats 4000000 in
set_option maxRecDepth 20000 in
theorem lm_rank (D : Nat) (M : Mem) (hI : MdI M) (x : Int) (x0 : 0 ≤ x) (x1 : x < M 81 0) : ∀ i : Int, 0 ≤ i → i ≤ M 81 0 → Wp (D + 1) 135 (4, [some (.inr (.inr 80)), some (.inl x), some (.inl (sumZ (fun j => if mC M x < mC M j ∨ (mC M j = mC M x ∧ j < x) then 1 else 0) i)), some (.inl i)], [], M) (fun r M' => ∃ v, r = some (.inl v) ∧ (v = rkZ (mC M) (M 81 0) x ∧ M' = M)) := by
  obtain ⟨n0, n1, k0, k1, f0, f1, r0, r1, s0, s1, hA⟩ := id hI
  refine loopZ (M 81 0) ?_
  intro i h0 h1 ih
  refine w_iload_n ta_135 rfl rfl ?_
  refine w_aload_n ta_135 rfl rfl ?_
  refine w_getR ta_135 rfl rfl ?_
  refine w_iconst ta_135 rfl ?_
  refine w_iaload ta_135 rfl rfl (by decide) (by decide) (by omega) ?_
  refine w_icmp_ge ta_135 rfl ⟨by omega, by omega⟩ ⟨by omega, by omega⟩ (fun h11 => ?_) (fun h11 => ?_)
  · refine w_iload_n ta_135 rfl rfl ?_
    refine w_iret ta_135 rfl (Or.inl rfl) ?_
    exact ⟨_, rfl, by rw [show i = M 81 0 by omega]; rfl, rfl⟩
  · have q := hA i h0 h11
    have q2 := hA x x0 x1
    have ih := ih h11
    rw [sumZ_s _ h0] at ih
    try dsimp only [mC, mH, mG] at ih
    try dsimp only [mC, mH, mG]
    refine w_iload_n ta_135 rfl rfl ?_
    refine w_aload_n ta_135 rfl rfl ?_
    refine w_getR ta_135 rfl rfl ?_
    refine w_iconst ta_135 rfl ?_
    refine w_iload_n ta_135 rfl rfl ?_
    refine w_iadd ta_135 rfl ?_
    refine w_iaload ta_135 rfl rfl (by omega) (by omega) (by omega) ?_
    refine w_aload_n ta_135 rfl rfl ?_
    refine w_getR ta_135 rfl rfl ?_
    refine w_iconst ta_135 rfl ?_
    refine w_iload_n ta_135 rfl rfl ?_
    refine w_iadd ta_135 rfl ?_
    refine w_iaload ta_135 rfl rfl (by omega) (by omega) (by omega) ?_
    refine w_icmp_gt ta_135 rfl ⟨by omega, by omega⟩ ⟨by omega, by omega⟩ (fun h31 => ?_) (fun h31 => ?_)
    · refine w_iconst ta_135 rfl ?_
      refine w_goto ta_135 rfl ?_
      refine w_cI [_] _ ta_135 rfl rfl rfl mt_107 rfl rfl rfl rfl (Nat.le_of_ble_eq_true rfl) (fun q => by cases q) rfl (cm_flag _ _ M (by omega)) ?_
      rintro v M2 ⟨rfl, rfl⟩
      refine w_iadd ta_135 rfl ?_
      refine w_istn_2_4 ta_135 rfl rfl ?_
      refine w_iinc_3_4 ta_135 rfl rfl ?_
      refine w_goto ta_135 rfl ?_
      first
        | (rw [if_pos (by omega)] at ih; exact ih)
        | (rw [if_neg (by omega)] at ih; exact ih)
    · refine w_aload_n ta_135 rfl rfl ?_
      refine w_getR ta_135 rfl rfl ?_
      refine w_iconst ta_135 rfl ?_
      refine w_iload_n ta_135 rfl rfl ?_
      refine w_iadd ta_135 rfl ?_
      refine w_iaload ta_135 rfl rfl (by omega) (by omega) (by omega) ?_
      refine w_aload_n ta_135 rfl rfl ?_
      refine w_getR ta_135 rfl rfl ?_
      refine w_iconst ta_135 rfl ?_
      refine w_iload_n ta_135 rfl rfl ?_
      refine w_iadd ta_135 rfl ?_
      refine w_iaload ta_135 rfl rfl (by omega) (by omega) (by omega) ?_
      refine w_icmp_ne ta_135 rfl ⟨by omega, by omega⟩ ⟨by omega, by omega⟩ (fun h50 => ?_) (fun h50 => ?_)
      · refine w_iconst ta_135 rfl ?_
        refine w_cI [_] _ ta_135 rfl rfl rfl mt_107 rfl rfl rfl rfl (Nat.le_of_ble_eq_true rfl) (fun q => by cases q) rfl (cm_flag _ _ M (by omega)) ?_
        rintro v M2 ⟨rfl, rfl⟩
        refine w_iadd ta_135 rfl ?_
        refine w_istn_2_4 ta_135 rfl rfl ?_
        refine w_iinc_3_4 ta_135 rfl rfl ?_
        refine w_goto ta_135 rfl ?_
        first
          | (rw [if_pos (by omega)] at ih; exact ih)
          | (rw [if_neg (by omega)] at ih; exact ih)
      · refine w_iload_n ta_135 rfl rfl ?_
        refine w_iload_n ta_135 rfl rfl ?_
        refine w_icmp_ge ta_135 rfl ⟨by omega, by omega⟩ ⟨by omega, by omega⟩ (fun h55 => ?_) (fun h55 => ?_)
        · refine w_iconst ta_135 rfl ?_
          refine w_cI [_] _ ta_135 rfl rfl rfl mt_107 rfl rfl rfl rfl (Nat.le_of_ble_eq_true rfl) (fun q => by cases q) rfl (cm_flag _ _ M (by omega)) ?_
          rintro v M2 ⟨rfl, rfl⟩
          refine w_iadd ta_135 rfl ?_
          refine w_istn_2_4 ta_135 rfl rfl ?_
          refine w_iinc_3_4 ta_135 rfl rfl ?_
          refine w_goto ta_135 rfl ?_
          first
            | (rw [if_pos (by omega)] at ih; exact ih)
            | (rw [if_neg (by omega)] at ih; exact ih)
        · refine w_iconst ta_135 rfl ?_
          refine w_goto ta_135 rfl ?_
          refine w_cI [_] _ ta_135 rfl rfl rfl mt_107 rfl rfl rfl rfl (Nat.le_of_ble_eq_true rfl) (fun q => by cases q) rfl (cm_flag _ _ M (by omega)) ?_
          rintro v M2 ⟨rfl, rfl⟩
          refine w_iadd ta_135 rfl ?_
          refine w_istn_2_4 ta_135 rfl rfl ?_
          refine w_iinc_3_4 ta_135 rfl rfl ?_
          refine w_goto ta_135 rfl ?_
          first
            | (rw [if_pos (by omega)] at ih; exact ih)
            | (rw [if_neg (by omega)] at ih; exact ih)
set_option maxHeartbeats 4000000 in
set_option maxRecDepth 20000 in
theorem cm_rank (D : Nat) (M : Mem) (hI : MdI M) (x : Int) (x0 : 0 ≤ x) (x1 : x < M 81 0) : CI (D + 1) 135 [.inr (.inr 80), .inl x] M (fun v M' => v = rkZ (mC M) (M 81 0) x ∧ M' = M) := by
  refine mk_C mt_135 rfl (Nat.le_of_ble_eq_true rfl) (L := [some _, some _, none, none]) rfl ?_
  refine w_iconst ta_135 rfl ?_
  refine w_istn_2_4 ta_135 rfl rfl ?_
  refine w_iconst ta_135 rfl ?_
  refine w_istn_3_4 ta_135 rfl rfl ?_
  exact lm_rank D M hI x x0 x1 0 (by omega) hI.1
set_option maxHeartbeats 4000000 in
set_option maxRecDepth 20000 in
theorem cm_cell (D : Nat) (M : Mem) (hI : MdI M) (x w : Int) (hx : inR x) (hw : inR w) : CI (D + 2) 136 [.inr (.inr 80), .inl x, .inl w] M (fun v M' => v = ceZ x w (M 81 0) (mC M) (mH M) (mG M) ∧ M' = M) := by
  refine mk_C mt_136 rfl (Nat.le_of_ble_eq_true rfl) (L := [some _, some _, some _]) rfl ?_
  obtain ⟨n0, n1, k0, k1, f0, f1, r0, r1, s0, s1, hA⟩ := id hI
  obtain ⟨x0, x1⟩ := id hx
  obtain ⟨w0, w1⟩ := id hw
  refine w_aload_n ta_136 rfl rfl ?_
  refine w_iload_n ta_136 rfl rfl ?_
  refine w_cI [_, _] _ ta_136 rfl rfl rfl mt_123 rfl rfl rfl rfl (Nat.le_of_ble_eq_true rfl) (fun _ => rfl) rfl (cm_isCell _ M hI x hx) ?_
  rintro v M2 ⟨hv, rfl⟩
  refine w_if_ne ta_136 rfl ⟨by omega, by omega⟩ (fun h5 => ?_) (fun h5 => ?_)
  · refine w_iload_n ta_136 rfl rfl ?_
    rcases (show w = 0 ∨ w = 1 ∨ w = 2 ∨ w = 3 ∨ (w < 0 ∨ 3 < w) by omega) with h11 | h11 | h11 | h11 | h11
    · refine w_tsw 40 ta_136 rfl hw (by rw [h11]; rfl) ?_
      refine w_aload_n ta_136 rfl rfl ?_
      refine w_getR ta_136 rfl rfl ?_
      refine w_iconst ta_136 rfl ?_
      refine w_iload_n ta_136 rfl rfl ?_
      refine w_iadd ta_136 rfl ?_
      refine w_iaload ta_136 rfl rfl (by omega) (by omega) (by omega) ?_
      refine w_iret ta_136 rfl (Or.inl rfl) ?_
      exact ⟨_, rfl, by rw [ceZ, if_pos (by omega), h11]; rfl, rfl⟩
    · refine w_tsw 49 ta_136 rfl hw (by rw [h11]; rfl) ?_
      refine w_aload_n ta_136 rfl rfl ?_
      refine w_getR ta_136 rfl rfl ?_
      refine w_bipush ta_136 rfl ?_
      refine w_iload_n ta_136 rfl rfl ?_
      refine w_iadd ta_136 rfl ?_
      refine w_iaload ta_136 rfl rfl (by omega) (by omega) (by omega) ?_
      refine w_iret ta_136 rfl (Or.inl rfl) ?_
      exact ⟨_, rfl, by rw [ceZ, if_pos (by omega), h11]; rfl, rfl⟩
    · refine w_tsw 59 ta_136 rfl hw (by rw [h11]; rfl) ?_
      refine w_aload_n ta_136 rfl rfl ?_
      refine w_getR ta_136 rfl rfl ?_
      refine w_bipush ta_136 rfl ?_
      refine w_iload_n ta_136 rfl rfl ?_
      refine w_iadd ta_136 rfl ?_
      refine w_iaload ta_136 rfl rfl (by omega) (by omega) (by omega) ?_
      refine w_iret ta_136 rfl (Or.inl rfl) ?_
      exact ⟨_, rfl, by rw [ceZ, if_pos (by omega), h11]; rfl, rfl⟩
    · refine w_tsw 69 ta_136 rfl hw (by rw [h11]; rfl) ?_
      refine w_aload_n ta_136 rfl rfl ?_
      refine w_iload_n ta_136 rfl rfl ?_
      refine w_cI [_, _] _ ta_136 rfl rfl rfl mt_135 rfl rfl rfl rfl (Nat.le_of_ble_eq_true rfl) (fun _ => rfl) rfl (cm_rank _ M2 hI x (by omega) (by omega)) ?_
      rintro v2 M3 ⟨rfl, rfl⟩
      refine w_iret ta_136 rfl (Or.inl rfl) ?_
      exact ⟨_, rfl, by rw [ceZ, if_pos (by omega), h11]; rfl, rfl⟩
    · refine w_tsw 75 ta_136 rfl hw (if_pos h11) ?_
      refine w_iconst ta_136 rfl ?_
      refine w_iret ta_136 rfl (Or.inl rfl) ?_
      exact ⟨_, rfl, by rw [ceZ, if_pos (by omega), if_neg (by omega), if_neg (by omega), if_neg (by omega), if_neg (by omega)], rfl⟩
  · refine w_iconst ta_136 rfl ?_
    refine w_iret ta_136 rfl (Or.inl rfl) ?_
    exact ⟨_, rfl, by rw [ceZ, if_neg (by omega)], rfl⟩
set_option maxHeartbeats 4000000 in
set_option maxRecDepth 20000 in
theorem lm_strongest (D : Nat) (M : Mem) (hI : MdI M) (g : Int) (g0 : inR g) : ∀ i : Int, 0 ≤ i → i ≤ M 81 0 → Wp D 137 (5, [some (.inr (.inr 80)), some (.inl g), some (.inl (stZ (mG M) (mH M) i g)), some (.inl i)], [], M) (fun r M' => ∃ v, r = some (.inl v) ∧ (v = stZ (mG M) (mH M) (M 81 0) g ∧ M' = M)) := by
  obtain ⟨n0, n1, k0, k1, f0, f1, r0, r1, s0, s1, hA⟩ := id hI
  refine loopZ (M 81 0) ?_
  intro i h0 h1 ih
  refine w_iload_n ta_137 rfl rfl ?_
  refine w_aload_n ta_137 rfl rfl ?_
  refine w_getR ta_137 rfl rfl ?_
  refine w_iconst ta_137 rfl ?_
  refine w_iaload ta_137 rfl rfl (by decide) (by decide) (by omega) ?_
  refine w_icmp_ge ta_137 rfl ⟨by omega, by omega⟩ ⟨by omega, by omega⟩ (fun h12 => ?_) (fun h12 => ?_)
  · refine w_iload_n ta_137 rfl rfl ?_
    refine w_iret ta_137 rfl (Or.inl rfl) ?_
    exact ⟨_, rfl, by rw [show i = M 81 0 by omega], rfl⟩
  · have q := hA i h0 h12
    obtain ⟨g2, g3⟩ := id g0
    have ih := ih h12
    rw [stZ_s _ _ _ h0] at ih
    have b := stZ_b (mG M) (mH M) g h0
    try dsimp only [mC, mH, mG] at b
    try dsimp only [mC, mH, mG] at ih
    try dsimp only [mC, mH, mG]
    refine w_aload_n ta_137 rfl rfl ?_
    refine w_getR ta_137 rfl rfl ?_
    refine w_bipush ta_137 rfl ?_
    refine w_iload_n ta_137 rfl rfl ?_
    refine w_iadd ta_137 rfl ?_
    refine w_iaload ta_137 rfl rfl (by omega) (by omega) (by omega) ?_
    refine w_iload_n ta_137 rfl rfl ?_
    refine w_icmp_ne ta_137 rfl ⟨by omega, by omega⟩ ⟨by omega, by omega⟩ (fun h25 => ?_) (fun h25 => ?_)
    · refine w_iinc_3_4 ta_137 rfl rfl ?_
      refine w_goto ta_137 rfl ?_
      first
        | (rw [if_pos (by omega)] at ih; exact ih)
        | (rw [if_neg (by omega)] at ih; exact ih)
    · refine w_iload_n ta_137 rfl rfl ?_
      refine w_bipush ta_137 rfl ?_
      refine w_icmp_eq ta_137 rfl ⟨by omega, by omega⟩ ⟨by omega, by omega⟩ (fun h31 => ?_) (fun h31 => ?_)
      · refine w_iload_n ta_137 rfl rfl ?_
        refine w_istn_2_4 ta_137 rfl rfl ?_
        refine w_iinc_3_4 ta_137 rfl rfl ?_
        refine w_goto ta_137 rfl ?_
        first
          | (rw [if_pos (by omega)] at ih; exact ih)
          | (rw [if_neg (by omega)] at ih; exact ih)
      · have b2 := b.resolve_left h31
        have q2 := hA _ b2.1 (by omega)
        refine w_aload_n ta_137 rfl rfl ?_
        refine w_getR ta_137 rfl rfl ?_
        refine w_bipush ta_137 rfl ?_
        refine w_iload_n ta_137 rfl rfl ?_
        refine w_iadd ta_137 rfl ?_
        refine w_iaload ta_137 rfl rfl (by omega) (by omega) (by omega) ?_
        refine w_aload_n ta_137 rfl rfl ?_
        refine w_getR ta_137 rfl rfl ?_
        refine w_bipush ta_137 rfl ?_
        refine w_iload_n ta_137 rfl rfl ?_
        refine w_iadd ta_137 rfl ?_
        refine w_iaload ta_137 rfl rfl (by omega) (by omega) (by omega) ?_
        refine w_icmp_le ta_137 rfl ⟨by omega, by omega⟩ ⟨by omega, by omega⟩ (fun h52 => ?_) (fun h52 => ?_)
        · refine w_iinc_3_4 ta_137 rfl rfl ?_
          refine w_goto ta_137 rfl ?_
          first
            | (rw [if_pos (by omega)] at ih; exact ih)
            | (rw [if_neg (by omega)] at ih; exact ih)
        · refine w_iload_n ta_137 rfl rfl ?_
          refine w_istn_2_4 ta_137 rfl rfl ?_
          refine w_iinc_3_4 ta_137 rfl rfl ?_
          refine w_goto ta_137 rfl ?_
          first
            | (rw [if_pos (by omega)] at ih; exact ih)
            | (rw [if_neg (by omega)] at ih; exact ih)
set_option maxHeartbeats 4000000 in
set_option maxRecDepth 20000 in
theorem cm_strongest (D : Nat) (M : Mem) (hI : MdI M) (g : Int) (g0 : inR g) : CI D 137 [.inr (.inr 80), .inl g] M (fun v M' => v = stZ (mG M) (mH M) (M 81 0) g ∧ M' = M) := by
  refine mk_C mt_137 rfl (Nat.le_of_ble_eq_true rfl) (L := [some _, some _, none, none]) rfl ?_
  refine w_bipush ta_137 rfl ?_
  refine w_istn_2_4 ta_137 rfl rfl ?_
  refine w_iconst ta_137 rfl ?_
  refine w_istn_3_4 ta_137 rfl rfl ?_
  exact lm_strongest D M hI g g0 0 (by omega) hI.1
set_option maxHeartbeats 4000000 in
set_option maxRecDepth 20000 in
theorem lm_cellsOf_0 (D : Nat) (M : Mem) (hI : MdI M) (g : Int) (g0 : inR g) : ∀ i : Int, 0 ≤ i → i ≤ M 81 0 → Wp D 138 (5, [some (.inr (.inr 80)), some (.inl g), some (.inl 0), some (.inl (ctZ (mG M) i g)), some (.inl i)], [], M) (fun r M' => ∃ v, r = some (.inl v) ∧ (v = ctZ (mG M) (M 81 0) g ∧ M' = M)) := by
  obtain ⟨n0, n1, k0, k1, f0, f1, r0, r1, s0, s1, hA⟩ := id hI
  refine loopZ (M 81 0) ?_
  intro i h0 h1 ih
  refine w_iload ta_138 rfl rfl ?_
  refine w_aload_n ta_138 rfl rfl ?_
  refine w_getR ta_138 rfl rfl ?_
  refine w_iconst ta_138 rfl ?_
  refine w_iaload ta_138 rfl rfl (by decide) (by decide) (by omega) ?_
  refine w_icmp_ge ta_138 rfl ⟨by omega, by omega⟩ ⟨by omega, by omega⟩ (fun h13 => ?_) (fun h13 => ?_)
  · refine w_iload_n ta_138 rfl rfl ?_
    refine w_iret ta_138 rfl (Or.inl rfl) ?_
    exact ⟨_, rfl, by rw [show i = M 81 0 by omega], rfl⟩
  · have q := hA i h0 h13
    obtain ⟨g2, g3⟩ := id g0
    have ih := ih h13
    rw [ctZ_s _ _ h0] at ih
    try dsimp only [mC, mH, mG] at ih
    try dsimp only [mC, mH, mG]
    refine w_iload_n ta_138 rfl rfl ?_
    refine w_aload_n ta_138 rfl rfl ?_
    refine w_getR ta_138 rfl rfl ?_
    refine w_bipush ta_138 rfl ?_
    refine w_iload ta_138 rfl rfl ?_
    refine w_iadd ta_138 rfl ?_
    refine w_iaload ta_138 rfl rfl (by omega) (by omega) (by omega) ?_
    refine w_iload_n ta_138 rfl rfl ?_
    refine w_icmp_ne ta_138 rfl ⟨by omega, by omega⟩ ⟨by omega, by omega⟩ (fun h28 => ?_) (fun h28 => ?_)
    · refine w_iconst ta_138 rfl ?_
      refine w_iadd ta_138 rfl ?_
      refine w_istn_3_5 ta_138 rfl rfl ?_
      refine w_iinc_4_5 ta_138 rfl rfl ?_
      refine w_goto ta_138 rfl ?_
      first
        | (rw [if_pos (by omega)] at ih; exact ih)
        | (rw [if_pos (by omega), ← Int.one_mul (2 ^ i.toNat)] at ih; exact ih)
        | (rw [if_neg (by omega)] at ih; exact ih)
    · refine w_iload_n ta_138 rfl rfl ?_
      refine w_if_eq ta_138 rfl (by decide) (fun h32 => ?_) (fun h32 => ?_)
      · refine w_iconst ta_138 rfl ?_
        refine w_goto ta_138 rfl ?_
        refine w_iadd ta_138 rfl ?_
        refine w_istn_3_5 ta_138 rfl rfl ?_
        refine w_iinc_4_5 ta_138 rfl rfl ?_
        refine w_goto ta_138 rfl ?_
        first
          | (rw [if_pos (by omega)] at ih; exact ih)
          | (rw [if_pos (by omega), ← Int.one_mul (2 ^ i.toNat)] at ih; exact ih)
          | (rw [if_neg (by omega)] at ih; exact ih)
      · exfalso; omega
set_option maxHeartbeats 4000000 in
set_option maxRecDepth 20000 in
theorem cm_cellsOf_0 (D : Nat) (M : Mem) (hI : MdI M) (g : Int) (g0 : inR g) : CI D 138 [.inr (.inr 80), .inl g, .inl 0] M (fun v M' => v = ctZ (mG M) (M 81 0) g ∧ M' = M) := by
  refine mk_C mt_138 rfl (Nat.le_of_ble_eq_true rfl) (L := [some _, some _, some _, none, none]) rfl ?_
  refine w_iconst ta_138 rfl ?_
  refine w_istn_3_5 ta_138 rfl rfl ?_
  refine w_iconst ta_138 rfl ?_
  refine w_ist_4_5 ta_138 rfl rfl ?_
  exact lm_cellsOf_0 D M hI g g0 0 (by omega) hI.1
set_option maxHeartbeats 4000000 in
set_option maxRecDepth 20000 in
theorem lm_cellsOf_1 (D : Nat) (M : Mem) (hI : MdI M) (g : Int) (g0 : inR g) : ∀ i : Int, 0 ≤ i → i ≤ M 81 0 → Wp D 138 (5, [some (.inr (.inr 80)), some (.inl g), some (.inl 1), some (.inl (btZ (mG M) i g)), some (.inl i)], [], M) (fun r M' => ∃ v, r = some (.inl v) ∧ (v = btZ (mG M) (M 81 0) g ∧ M' = M)) := by
  obtain ⟨n0, n1, k0, k1, f0, f1, r0, r1, s0, s1, hA⟩ := id hI
  refine loopZ (M 81 0) ?_
  intro i h0 h1 ih
  refine w_iload ta_138 rfl rfl ?_
  refine w_aload_n ta_138 rfl rfl ?_
  refine w_getR ta_138 rfl rfl ?_
  refine w_iconst ta_138 rfl ?_
  refine w_iaload ta_138 rfl rfl (by decide) (by decide) (by omega) ?_
  refine w_icmp_ge ta_138 rfl ⟨by omega, by omega⟩ ⟨by omega, by omega⟩ (fun h13 => ?_) (fun h13 => ?_)
  · refine w_iload_n ta_138 rfl rfl ?_
    refine w_iret ta_138 rfl (Or.inl rfl) ?_
    exact ⟨_, rfl, by rw [show i = M 81 0 by omega], rfl⟩
  · have q := hA i h0 h13
    obtain ⟨g2, g3⟩ := id g0
    have ih := ih h13
    rw [btZ_s _ _ h0] at ih
    try dsimp only [mC, mH, mG] at ih
    try dsimp only [mC, mH, mG]
    refine w_iload_n ta_138 rfl rfl ?_
    refine w_aload_n ta_138 rfl rfl ?_
    refine w_getR ta_138 rfl rfl ?_
    refine w_bipush ta_138 rfl ?_
    refine w_iload ta_138 rfl rfl ?_
    refine w_iadd ta_138 rfl ?_
    refine w_iaload ta_138 rfl rfl (by omega) (by omega) (by omega) ?_
    refine w_iload_n ta_138 rfl rfl ?_
    refine w_icmp_ne ta_138 rfl ⟨by omega, by omega⟩ ⟨by omega, by omega⟩ (fun h28 => ?_) (fun h28 => ?_)
    · refine w_iconst ta_138 rfl ?_
      refine w_iadd ta_138 rfl ?_
      refine w_istn_3_5 ta_138 rfl rfl ?_
      refine w_iinc_4_5 ta_138 rfl rfl ?_
      refine w_goto ta_138 rfl ?_
      first
        | (rw [if_pos (by omega)] at ih; exact ih)
        | (rw [if_pos (by omega), ← Int.one_mul (2 ^ i.toNat)] at ih; exact ih)
        | (rw [if_neg (by omega)] at ih; exact ih)
    · refine w_iload_n ta_138 rfl rfl ?_
      refine w_if_eq ta_138 rfl (by decide) (fun h32 => ?_) (fun h32 => ?_)
      · exfalso; omega
      · refine w_iconst ta_138 rfl ?_
        refine w_iload ta_138 rfl rfl ?_
        refine w_ishl ta_138 rfl (by omega) (by omega) ?_
        refine w_goto ta_138 rfl ?_
        refine w_iadd ta_138 rfl ?_
        refine w_istn_3_5 ta_138 rfl rfl ?_
        refine w_iinc_4_5 ta_138 rfl rfl ?_
        refine w_goto ta_138 rfl ?_
        first
          | (rw [if_pos (by omega)] at ih; exact ih)
          | (rw [if_pos (by omega), ← Int.one_mul (2 ^ i.toNat)] at ih; exact ih)
          | (rw [if_neg (by omega)] at ih; exact ih)
set_option maxHeartbeats 4000000 in
set_option maxRecDepth 20000 in
theorem cm_cellsOf_1 (D : Nat) (M : Mem) (hI : MdI M) (g : Int) (g0 : inR g) : CI D 138 [.inr (.inr 80), .inl g, .inl 1] M (fun v M' => v = btZ (mG M) (M 81 0) g ∧ M' = M) := by
  refine mk_C mt_138 rfl (Nat.le_of_ble_eq_true rfl) (L := [some _, some _, some _, none, none]) rfl ?_
  refine w_iconst ta_138 rfl ?_
  refine w_istn_3_5 ta_138 rfl rfl ?_
  refine w_iconst ta_138 rfl ?_
  refine w_ist_4_5 ta_138 rfl rfl ?_
  exact lm_cellsOf_1 D M hI g g0 0 (by omega) hI.1
set_option maxHeartbeats 4000000 in
set_option maxRecDepth 20000 in
theorem lm_above (D : Nat) (M : Mem) (hI : MdI M) (g : Int) (g0 : inR g) : ∀ i : Int, 0 ≤ i → i ≤ M 81 0 → Wp D 139 (4, [some (.inr (.inr 80)), some (.inl g), some (.inl (sumZ (fun i => if mG M i = g then (if 0 < mH M i - M 81 2 then mH M i - M 81 2 else 0) else 0) i)), some (.inl i)], [], M) (fun r M' => ∃ v, r = some (.inl v) ∧ (v = abZ (mG M) (mH M) (M 81 2) (M 81 0) g ∧ M' = M)) := by
  obtain ⟨n0, n1, k0, k1, f0, f1, r0, r1, s0, s1, hA⟩ := id hI
  refine loopZ (M 81 0) ?_
  intro i h0 h1 ih
  refine w_iload_n ta_139 rfl rfl ?_
  refine w_aload_n ta_139 rfl rfl ?_
  refine w_getR ta_139 rfl rfl ?_
  refine w_iconst ta_139 rfl ?_
  refine w_iaload ta_139 rfl rfl (by decide) (by decide) (by omega) ?_
  refine w_icmp_ge ta_139 rfl ⟨by omega, by omega⟩ ⟨by omega, by omega⟩ (fun h11 => ?_) (fun h11 => ?_)
  · refine w_iload_n ta_139 rfl rfl ?_
    refine w_iret ta_139 rfl (Or.inl rfl) ?_
    exact ⟨_, rfl, by rw [show i = M 81 0 by omega]; rfl, rfl⟩
  · have q := hA i h0 h11
    obtain ⟨g2, g3⟩ := id g0
    have ih := ih h11
    rw [sumZ_s _ h0] at ih
    try dsimp only [mC, mH, mG] at ih
    try dsimp only [mC, mH, mG]
    refine w_iload_n ta_139 rfl rfl ?_
    refine w_aload_n ta_139 rfl rfl ?_
    refine w_getR ta_139 rfl rfl ?_
    refine w_bipush ta_139 rfl ?_
    refine w_iload_n ta_139 rfl rfl ?_
    refine w_iadd ta_139 rfl ?_
    refine w_iaload ta_139 rfl rfl (by omega) (by omega) (by omega) ?_
    refine w_iload_n ta_139 rfl rfl ?_
    refine w_icmp_ne ta_139 rfl ⟨by omega, by omega⟩ ⟨by omega, by omega⟩ (fun h25 => ?_) (fun h25 => ?_)
    · refine w_iconst ta_139 rfl ?_
      refine w_iadd ta_139 rfl ?_
      refine w_istn_2_4 ta_139 rfl rfl ?_
      refine w_iinc_3_4 ta_139 rfl rfl ?_
      refine w_goto ta_139 rfl ?_
      first
        | (rw [if_pos (by omega), if_pos (by omega)] at ih; exact ih)
        | (rw [if_pos (by omega), if_neg (by omega)] at ih; exact ih)
        | (rw [if_neg (by omega)] at ih; exact ih)
    · refine w_aload_n ta_139 rfl rfl ?_
      refine w_getR ta_139 rfl rfl ?_
      refine w_bipush ta_139 rfl ?_
      refine w_iload_n ta_139 rfl rfl ?_
      refine w_iadd ta_139 rfl ?_
      refine w_iaload ta_139 rfl rfl (by omega) (by omega) (by omega) ?_
      refine w_aload_n ta_139 rfl rfl ?_
      refine w_getR ta_139 rfl rfl ?_
      refine w_iconst ta_139 rfl ?_
      refine w_iaload ta_139 rfl rfl (by decide) (by decide) (by omega) ?_
      refine w_icmp_le ta_139 rfl ⟨by omega, by omega⟩ ⟨by omega, by omega⟩ (fun h43 => ?_) (fun h43 => ?_)
      · refine w_iconst ta_139 rfl ?_
        refine w_iadd ta_139 rfl ?_
        refine w_istn_2_4 ta_139 rfl rfl ?_
        refine w_iinc_3_4 ta_139 rfl rfl ?_
        refine w_goto ta_139 rfl ?_
        first
          | (rw [if_pos (by omega), if_pos (by omega)] at ih; exact ih)
          | (rw [if_pos (by omega), if_neg (by omega)] at ih; exact ih)
          | (rw [if_neg (by omega)] at ih; exact ih)
      · refine w_aload_n ta_139 rfl rfl ?_
        refine w_getR ta_139 rfl rfl ?_
        refine w_bipush ta_139 rfl ?_
        refine w_iload_n ta_139 rfl rfl ?_
        refine w_iadd ta_139 rfl ?_
        refine w_iaload ta_139 rfl rfl (by omega) (by omega) (by omega) ?_
        refine w_aload_n ta_139 rfl rfl ?_
        refine w_getR ta_139 rfl rfl ?_
        refine w_iconst ta_139 rfl ?_
        refine w_iaload ta_139 rfl rfl (by decide) (by decide) (by omega) ?_
        refine w_isub ta_139 rfl ?_
        refine w_goto ta_139 rfl ?_
        refine w_iadd ta_139 rfl ?_
        refine w_istn_2_4 ta_139 rfl rfl ?_
        refine w_iinc_3_4 ta_139 rfl rfl ?_
        refine w_goto ta_139 rfl ?_
        first
          | (rw [if_pos (by omega), if_pos (by omega)] at ih; exact ih)
          | (rw [if_pos (by omega), if_neg (by omega)] at ih; exact ih)
          | (rw [if_neg (by omega)] at ih; exact ih)
set_option maxHeartbeats 4000000 in
set_option maxRecDepth 20000 in
theorem cm_above (D : Nat) (M : Mem) (hI : MdI M) (g : Int) (g0 : inR g) : CI D 139 [.inr (.inr 80), .inl g] M (fun v M' => v = abZ (mG M) (mH M) (M 81 2) (M 81 0) g ∧ M' = M) := by
  refine mk_C mt_139 rfl (Nat.le_of_ble_eq_true rfl) (L := [some _, some _, none, none]) rfl ?_
  refine w_iconst ta_139 rfl ?_
  refine w_istn_2_4 ta_139 rfl rfl ?_
  refine w_iconst ta_139 rfl ?_
  refine w_istn_3_4 ta_139 rfl rfl ?_
  exact lm_above D M hI g g0 0 (by omega) hI.1
/-- what group(g, what) answers -/
def gpZ (g w n k fl : Int) (has home : Int → Int) : Int :=
  if 0 ≤ g ∧ g < k then (if w = 0 then sumG has home n g else if w = 1 then ctZ home n g else if w = 2 then stZ home has n g else if w = 3 then btZ home n g else if w = 4 then abZ home has fl n g else -1) else -1
set_option maxHeartbeats 4000000 in
set_option maxRecDepth 20000 in
theorem cm_group (D : Nat) (M : Mem) (hI : MdI M) (x w : Int) (hx : inR x) (hw : inR w) : CI (D + 2) 141 [.inr (.inr 80), .inl x, .inl w] M (fun v M' => v = gpZ x w (M 81 0) (M 81 1) (M 81 2) (mH M) (mG M) ∧ ScM M M') := by
  refine mk_C mt_141 rfl (Nat.le_of_ble_eq_true rfl) (L := [some _, some _, some _]) rfl ?_
  obtain ⟨n0, n1, k0, k1, f0, f1, r0, r1, s0, s1, hA⟩ := id hI
  obtain ⟨x0, x1⟩ := id hx
  obtain ⟨w0, w1⟩ := id hw
  refine w_aload_n ta_141 rfl rfl ?_
  refine w_iload_n ta_141 rfl rfl ?_
  refine w_cI [_, _] _ ta_141 rfl rfl rfl mt_124 rfl rfl rfl rfl (Nat.le_of_ble_eq_true rfl) (fun _ => rfl) rfl (cm_isGroup _ M hI x hx) ?_
  rintro v M2 ⟨hv, rfl⟩
  refine w_if_ne ta_141 rfl ⟨by omega, by omega⟩ (fun h5 => ?_) (fun h5 => ?_)
  · refine w_iload_n ta_141 rfl rfl ?_
    rcases (show w = 0 ∨ w = 1 ∨ w = 2 ∨ w = 3 ∨ w = 4 ∨ (w < 0 ∨ 4 < w) by omega) with h11 | h11 | h11 | h11 | h11 | h11
    · refine w_tsw 44 ta_141 rfl hw (by rw [h11]; rfl) ?_
      refine w_aload_n ta_141 rfl rfl ?_
      refine w_iload_n ta_141 rfl rfl ?_
      refine w_cI [_, _] _ ta_141 rfl rfl rfl mt_140 rfl rfl rfl rfl (Nat.le_of_ble_eq_true rfl) (fun _ => rfl) rfl (cm_sumOf _ M2 hI x (by omega) (by omega)) ?_
      rintro v2 M3 ⟨rfl, hS⟩
      refine w_iret ta_141 rfl (Or.inl rfl) ?_
      exact ⟨_, rfl, by rw [gpZ, if_pos (by omega), h11]; rfl, hS.sc⟩
    · refine w_tsw 50 ta_141 rfl hw (by rw [h11]; rfl) ?_
      refine w_aload_n ta_141 rfl rfl ?_
      refine w_iload_n ta_141 rfl rfl ?_
      refine w_iconst ta_141 rfl ?_
      refine w_cI [_, _, _] _ ta_141 rfl rfl rfl mt_138 rfl rfl rfl rfl (Nat.le_of_ble_eq_true rfl) (fun _ => rfl) rfl (cm_cellsOf_0 _ M2 hI x hx) ?_
      rintro v2 M3 ⟨rfl, rfl⟩
      refine w_iret ta_141 rfl (Or.inl rfl) ?_
      exact ⟨_, rfl, by rw [gpZ, if_pos (by omega), h11]; rfl, ScM.rf _⟩
    · refine w_tsw 57 ta_141 rfl hw (by rw [h11]; rfl) ?_
      refine w_aload_n ta_141 rfl rfl ?_
      refine w_iload_n ta_141 rfl rfl ?_
      refine w_cI [_, _] _ ta_141 rfl rfl rfl mt_137 rfl rfl rfl rfl (Nat.le_of_ble_eq_true rfl) (fun _ => rfl) rfl (cm_strongest _ M2 hI x hx) ?_
      rintro v2 M3 ⟨rfl, rfl⟩
      refine w_iret ta_141 rfl (Or.inl rfl) ?_
      exact ⟨_, rfl, by rw [gpZ, if_pos (by omega), h11]; rfl, ScM.rf _⟩
    · refine w_tsw 63 ta_141 rfl hw (by rw [h11]; rfl) ?_
      refine w_aload_n ta_141 rfl rfl ?_
      refine w_iload_n ta_141 rfl rfl ?_
      refine w_iconst ta_141 rfl ?_
      refine w_cI [_, _, _] _ ta_141 rfl rfl rfl mt_138 rfl rfl rfl rfl (Nat.le_of_ble_eq_true rfl) (fun _ => rfl) rfl (cm_cellsOf_1 _ M2 hI x hx) ?_
      rintro v2 M3 ⟨rfl, rfl⟩
      refine w_iret ta_141 rfl (Or.inl rfl) ?_
      exact ⟨_, rfl, by rw [gpZ, if_pos (by omega), h11]; rfl, ScM.rf _⟩
    · refine w_tsw 70 ta_141 rfl hw (by rw [h11]; rfl) ?_
      refine w_aload_n ta_141 rfl rfl ?_
      refine w_iload_n ta_141 rfl rfl ?_
      refine w_cI [_, _] _ ta_141 rfl rfl rfl mt_139 rfl rfl rfl rfl (Nat.le_of_ble_eq_true rfl) (fun _ => rfl) rfl (cm_above _ M2 hI x hx) ?_
      rintro v2 M3 ⟨rfl, rfl⟩
      refine w_iret ta_141 rfl (Or.inl rfl) ?_
      exact ⟨_, rfl, by rw [gpZ, if_pos (by omega), h11]; rfl, ScM.rf _⟩
    · refine w_tsw 76 ta_141 rfl hw (if_pos h11) ?_
      refine w_iconst ta_141 rfl ?_
      refine w_iret ta_141 rfl (Or.inl rfl) ?_
      exact ⟨_, rfl, by rw [gpZ, if_pos (by omega), if_neg (by omega), if_neg (by omega), if_neg (by omega), if_neg (by omega), if_neg (by omega)], ScM.rf _⟩
  · refine w_iconst ta_141 rfl ?_
    refine w_iret ta_141 rfl (Or.inl rfl) ?_
    exact ⟨_, rfl, by rw [gpZ, if_neg (by omega)], ScM.rf _⟩
