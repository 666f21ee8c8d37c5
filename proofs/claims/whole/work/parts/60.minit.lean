/-! the reference's constructor, from where its cells stand -/
set_option maxHeartbeats 4000000 in
set_option maxRecDepth 20000 in
theorem lp_mi1 (D : Nat) (N : Mem) (P : Option AV → Mem → Prop) (hP : Wp (D + 1) 105 (158, [some (.inr (.inr 80)), some (.inl 4)], [], setC N 95 (filF (N 95) (-4) 4)) P) : ∀ i : Int, 0 ≤ i → i ≤ 4 → Wp (D + 1) 105 (139, [some (.inr (.inr 80)), some (.inl i)], [], setC N 95 (filF (N 95) (-4) i)) P := by
  refine loopZ 4 ?_
  intro i h0 h1 ih
  refine w_iload_n ta_105 rfl rfl ?_
  refine w_iconst ta_105 rfl ?_
  refine w_icmp_ge ta_105 rfl ⟨by omega, by omega⟩ ⟨by omega, by omega⟩ (fun h141 => ?_) (fun h141 => ?_)
  · obtain rfl : i = 4 := by omega
    exact hP
  · refine w_aload_n ta_105 rfl rfl ?_
    refine w_getR ta_105 rfl rfl ?_
    refine w_iload_n ta_105 rfl rfl ?_
    refine w_bipush ta_105 rfl ?_
    refine w_iastore ta_105 rfl rfl (by omega) (by omega) (by omega) ?_
    refine w_iinc_1_2 ta_105 rfl rfl ?_
    refine w_goto ta_105 rfl ?_
    rw [wr_sc, filF_s _ _ h0]
    exact ih (by omega)
def cpS (N : Mem) (i : Int) : Int → Int := fun j => if 0 ≤ j ∧ j < i then N 85 j else N 81 j
theorem cpS_s (N : Mem) {i : Int} (h : 0 ≤ i) : upI (cpS N i) i (N 85 i) = cpS N (i + 1) := by
  funext j
  unfold upI cpS
  by_cases e : j = i
  · subst e
    rw [if_pos rfl, if_pos (by omega)]
  · rw [if_neg e]
    by_cases q : 0 ≤ j ∧ j < i
    · rw [if_pos q, if_pos (by omega)]
    · rw [if_neg q, if_neg (by omega)]
theorem cpS_0 (N : Mem) : cpS N 0 = N 81 := by
  funext j
  unfold cpS
  rw [if_neg (by omega)]
set_option maxHeartbeats 4000000 in
set_option maxRecDepth 20000 in
theorem lp_mi2 (D : Nat) (N : Mem) : ∀ i : Int, 0 ≤ i → i ≤ 53 → Wp (D + 1) 105 (164, [some (.inr (.inr 80)), some (.inl i)], [], setC N 81 (cpS N i)) (fun r M' => r = none ∧ M' = setC N 81 (cpS N 53)) := by
  refine loopZ 53 ?_
  intro i h0 h1 ih
  refine w_iload_n ta_105 rfl rfl ?_
  refine w_bipush ta_105 rfl ?_
  refine w_icmp_ge ta_105 rfl ⟨by omega, by omega⟩ ⟨by omega, by omega⟩ (fun h167 => ?_) (fun h167 => ?_)
  · refine w_vret ta_105 rfl ?_
    exact ⟨rfl, by rw [show i = 53 by omega]⟩
  · refine w_aload_n ta_105 rfl rfl ?_
    refine w_getR ta_105 rfl rfl ?_
    refine w_iload_n ta_105 rfl rfl ?_
    refine w_aload_n ta_105 rfl rfl ?_
    refine w_getR ta_105 rfl rfl ?_
    refine w_iload_n ta_105 rfl rfl ?_
    refine w_iaload ta_105 rfl rfl (by omega) (by omega) (by omega) ?_
    refine w_iastore ta_105 rfl rfl (by omega) (by omega) (by omega) ?_
    refine w_iinc_1_2 ta_105 rfl rfl ?_
    refine w_goto ta_105 rfl ?_
    rw [wr_sc, sc_n _ _ (by decide), cpS_s _ h0]
    exact ih (by omega)
set_option maxHeartbeats 4000000 in
set_option maxRecDepth 20000 in
theorem cm_init (D : Nat) (N : Mem) : Wp (D + 1) 105 (137, [some (.inr (.inr 80)), none], [], N) (fun r M' => r = none ∧ (∀ c, c ≠ 81 → c ≠ 85 → c ≠ 87 → c ≠ 95 → M' c = N c) ∧ (∀ z, 0 ≤ z → z < 53 → M' 81 z = if z = 1 then 2 else if z = 3 then 10 else if z = 4 then 5 else 0) ∧ ∀ j, 0 ≤ j → j < 4 → M' 95 j = -4) := by
  refine w_iconst ta_105 rfl ?_
  refine w_istn_1_2 ta_105 rfl rfl ?_
  have id0 : setC N 95 (filF (N 95) (-4) 0) = N := by rw [filF_0, sc_id]
  have go := fun h => lp_mi1 D N (fun r M' => r = none ∧ (∀ c, c ≠ 81 → c ≠ 85 → c ≠ 87 → c ≠ 95 → M' c = N c) ∧ (∀ z, 0 ≤ z → z < 53 → M' 81 z = if z = 1 then 2 else if z = 3 then 10 else if z = 4 then 5 else 0) ∧ ∀ j, 0 ≤ j → j < 4 → M' 95 j = -4) h 0 (by omega) (by omega)
  rw [id0] at go
  refine go ?_
  refine w_aload_n ta_105 rfl rfl ?_
  refine w_cV [_] _ ta_105 rfl rfl rfl mt_108 rfl rfl rfl rfl (Nat.le_of_ble_eq_true rfl) (fun _ => rfl) rfl (cm_firstDraft _ _) ?_
  rintro Z ⟨z1, z2, z3⟩
  refine w_iconst ta_105 rfl ?_
  refine w_istn_1_2 ta_105 rfl rfl ?_
  have q := lp_mi2 D Z 0 (by omega) (by omega)
  rw [cpS_0, sc_id] at q
  refine q.imp ?_
  rintro r M' ⟨hr, rfl⟩
  refine ⟨hr, fun c h1 h2 h3 h4 => ?_, fun z z0 z1 => ?_, fun j j0 j1 => ?_⟩
  · rw [sc_n _ _ h1, z1 c h2 h3, sc_n _ _ h4]
  · rw [sc_s]
    unfold cpS
    rw [if_pos ⟨z0, z1⟩]
    exact z2 z z0 z1
  · rw [sc_n _ _ (by decide), z1 95 (by decide) (by decide), sc_s]
    exact if_pos ⟨j0, j1⟩
/-- the numbers at first keep the invariant -/
theorem inv0 {M : Mem} (h1 : ∀ c, c ≠ 81 → c ≠ 85 → c ≠ 87 → c ≠ 95 → M c = M0 c) (h2 : ∀ z, 0 ≤ z → z < 53 → M 81 z = if z = 1 then 2 else if z = 3 then 10 else if z = 4 then 5 else 0) (h3 : ∀ j, 0 ≤ j → j < 4 → M 95 j = -4) : INV M := by
  have e := fun c (h : c ≠ 81 ∧ c ≠ 85 ∧ c ≠ 87 ∧ c ≠ 95) => h1 c h.1 h.2.1 h.2.2.1 h.2.2.2
  have k1 := e 1 (by decide)
  have k2 := e 2 (by decide)
  have k0 := e 0 (by decide)
  have k3 := e 3 (by decide)
  have k80 := e 80 (by decide)
  have k86 := e 86 (by decide)
  have k25 := e 25 (by decide)
  have k83 := e 83 (by decide)
  have sh : ∀ (q : Int) (c : Nat), 0 ≤ q → q < 4 → c ≠ 81 ∧ c ≠ 85 ∧ c ≠ 87 ∧ c ≠ 95 → M0 c = sh0 → c + 1 ≠ 81 ∧ c + 1 ≠ 85 ∧ c + 1 ≠ 87 ∧ c + 1 ≠ 95 → M0 (c + 1) = (fun _ => 0) → ShR q c M := by
    intro q c q0 q1 hc hm hc1 hm1
    unfold ShR
    rw [e c hc, hm, e (c + 1) hc1, hm1, h3 q q0 q1, e 96 (by decide), e 97 (by decide)]
    refine ⟨by decide, by decide, by decide, by decide, by decide, rfl, fun j _ _ => ⟨rfl, (by decide : (-2147483648 : Int) ≤ 0), (by decide : (0 : Int) < 2147483648)⟩⟩
  refine ⟨⟨?_, ?_, ?_⟩, ⟨?_, ?_, ?_, ?_, ?_, ?_, ?_⟩, ⟨?_, ?_⟩, ⟨⟨?_, ?_, ?_⟩, ⟨?_, ?_, ?_⟩⟩, sh 0 72 (by decide) (by decide) (by decide) rfl (by decide) rfl, sh 1 74 (by decide) (by decide) (by decide) rfl (by decide) rfl, sh 2 76 (by decide) (by decide) (by decide) rfl (by decide) rfl, sh 3 78 (by decide) (by decide) (by decide) rfl (by decide) rfl⟩
  · unfold TpI
    rw [k1, k2]
    exact ⟨by decide, by decide, fun i _ _ => ⟨(by decide : (0 : Int) ≤ 0), (by decide : (0 : Int) ≤ 127)⟩⟩
  · rw [k80, k1]; rfl
  · rw [k86, k2]; rfl
  · unfold PkI
    rw [k3]
    refine ⟨by decide, by decide, by decide, by decide, by decide, by decide, by decide, by decide, by decide, by decide, fun i i0 i1 => ?_⟩
    have : i < 0 := i1
    omega
  · rw [k3, h2 0 (by decide) (by decide)]; rfl
  · rw [k3, h2 1 (by decide) (by decide)]; rfl
  · rw [k3, h2 2 (by decide) (by decide)]; rfl
  · rw [k3, h2 3 (by decide) (by decide)]; rfl
  · rw [k3, h2 4 (by decide) (by decide)]; rfl
  · intro i i0 i1
    rw [h2 0 (by decide) (by decide)] at i1
    have : i < 0 := i1
    omega
  · rw [k80, k0]; rfl
  · rw [k80, k0]; rfl
  · rw [k25]; exact Or.inl rfl
  · rw [k25, k83]; rfl
  · rw [k25]
    intro q
    have : (0 : Int) = 1 := q
    omega
  · rw [k25]; exact Or.inl rfl
  · rw [k25, k83]; rfl
  · rw [k25]
    intro q
    have : (0 : Int) = 1 := q
    omega
