/-! ways, for callers: the reference -/
def JoM (M M' : Mem) : Prop := M' 80 21 = ((M 81 0 - 1).toNat : Int) ∧ ∀ j : Nat, j < (M 81 0 - 1).toNat → M' 92 j = d1 (mC M) (M 81 0) (M 81 1) j ∧ M' 93 j = d2 (mC M) (M 81 0) (M 81 1) j
theorem hcM {M : Mem} (hI : MdI M) : ∀ i, 0 ≤ i → i < M 81 0 → 1 ≤ mC M i ∧ mC M i ≤ 999 := fun i i0 i1 => by
  obtain ⟨n0, n1, k0, k1, f0, f1, r0, r1, s0, s1, hA⟩ := id hI
  have := hA i i0 i1
  show 1 ≤ M 81 (5 + i) ∧ M 81 (5 + i) ≤ 999
  omega
theorem mW_w {M N : Mem} {w : Int} (hS : ScM M N) (hW : ∀ i, 0 ≤ i → i < M 81 0 → N 89 i = wayZ w (mC M) (M 81 0) (M 81 1) i) : mW N = waS w (mC M) (M 81 0) (M 81 1) := by
  funext g
  show sumG (fun i => N 81 (5 + i)) (N 89) (N 81 0) g = _
  rw [hS.e1]
  exact sumG_cg g (fun _ _ _ => rfl) hW
set_option maxHeartbeats 4000000 in
set_option maxRecDepth 20000 in
theorem cm_find (D : Nat) (M : Mem) (hI : MdI M) (w : Int) (w0 : 0 ≤ w) (w1 : w < 4) : CV (D + 5) 153 [.inr (.inr 80), .inl w] M (fun M' => ScM M M' ∧ (∀ i, 0 ≤ i → i < M 81 0 → M' 89 i = wayZ w (mC M) (M 81 0) (M 81 1) i) ∧ (w = 2 → JoM M M')) := by
  refine mk_C mt_153 rfl (Nat.le_of_ble_eq_true rfl) (L := [some _, some _]) rfl ?_
  obtain ⟨n0, n1, k0, k1, f0, f1, r0, r1, s0, s1, hA⟩ := id hI
  refine w_iload_n ta_153 rfl rfl ?_
  rcases (show w = 0 ∨ w = 1 ∨ w = 2 ∨ (w < 0 ∨ 2 < w) by omega) with h1 | h1 | h1 | h1
  · refine w_tsw 28 ta_153 rfl ⟨by omega, by omega⟩ (by rw [h1]; rfl) ?_
    refine w_aload_n ta_153 rfl rfl ?_
    refine w_cV [_] _ ta_153 rfl rfl rfl mt_142 rfl rfl rfl rfl (Nat.le_of_ble_eq_true rfl) (fun _ => rfl) rfl (cm_findTurns _ M hI) ?_
    rintro N hN
    refine w_goto ta_153 rfl ?_
    refine w_vret ta_153 rfl ?_
    first
      | (refine ⟨rfl, sc_89_sc (fun c _ c2 => by rw [hN, sc_n _ _ (by omega)]) (by rw [hN, sc_n _ _ (by decide)]), fun i i0 i1 => ?_, fun z => by omega⟩
         unfold wayZ
         rw [if_pos (by omega), hN, sc_s]
         exact if_pos ⟨i0, i1⟩)
      | (refine ⟨rfl, sc_89_sc (fun c _ c2 => hF c (by omega) (by omega)) (hF 80 (by decide) (by decide)), fun i i0 i1 => ?_, fun z => by omega⟩
         unfold wayZ
         rw [if_neg (by omega), if_pos (by omega)]
         exact hW i i0 i1)
      | (refine ⟨rfl, hF, fun i i0 i1 => ?_, fun _ => hJ⟩
         unfold wayZ
         rw [if_neg (by omega), if_neg (by omega), if_pos (by omega)]
         exact hW i i0 i1)
      | (refine ⟨rfl, hF, fun i i0 i1 => ?_, fun z => by omega⟩
         unfold wayZ
         rw [if_neg (by omega), if_neg (by omega), if_neg (by omega)]
         exact hW i i0 i1)
  · refine w_tsw 35 ta_153 rfl ⟨by omega, by omega⟩ (by rw [h1]; rfl) ?_
    refine w_aload_n ta_153 rfl rfl ?_
    refine w_cV [_] _ ta_153 rfl rfl rfl mt_143 rfl rfl rfl rfl (Nat.le_of_ble_eq_true rfl) (fun _ => rfl) rfl (cm_findWeakest _ M hI) ?_
    rintro N ⟨hF, hW⟩
    refine w_goto ta_153 rfl ?_
    refine w_vret ta_153 rfl ?_
    first
      | (refine ⟨rfl, sc_89_sc (fun c _ c2 => by rw [hN, sc_n _ _ (by omega)]) (by rw [hN, sc_n _ _ (by decide)]), fun i i0 i1 => ?_, fun z => by omega⟩
         unfold wayZ
         rw [if_pos (by omega), hN, sc_s]
         exact if_pos ⟨i0, i1⟩)
      | (refine ⟨rfl, sc_89_sc (fun c _ c2 => hF c (by omega) (by omega)) (hF 80 (by decide) (by decide)), fun i i0 i1 => ?_, fun z => by omega⟩
         unfold wayZ
         rw [if_neg (by omega), if_pos (by omega)]
         exact hW i i0 i1)
      | (refine ⟨rfl, hF, fun i i0 i1 => ?_, fun _ => hJ⟩
         unfold wayZ
         rw [if_neg (by omega), if_neg (by omega), if_pos (by omega)]
         exact hW i i0 i1)
      | (refine ⟨rfl, hF, fun i i0 i1 => ?_, fun z => by omega⟩
         unfold wayZ
         rw [if_neg (by omega), if_neg (by omega), if_neg (by omega)]
         exact hW i i0 i1)
  · refine w_tsw 42 ta_153 rfl ⟨by omega, by omega⟩ (by rw [h1]; rfl) ?_
    refine w_aload_n ta_153 rfl rfl ?_
    refine w_cV [_] _ ta_153 rfl rfl rfl mt_150 rfl rfl rfl rfl (Nat.le_of_ble_eq_true rfl) (fun _ => rfl) rfl (cm_findDifferences _ M hI) ?_
    rintro N ⟨hF, hW, hJ⟩
    refine w_goto ta_153 rfl ?_
    refine w_vret ta_153 rfl ?_
    first
      | (refine ⟨rfl, sc_89_sc (fun c _ c2 => by rw [hN, sc_n _ _ (by omega)]) (by rw [hN, sc_n _ _ (by decide)]), fun i i0 i1 => ?_, fun z => by omega⟩
         unfold wayZ
         rw [if_pos (by omega), hN, sc_s]
         exact if_pos ⟨i0, i1⟩)
      | (refine ⟨rfl, sc_89_sc (fun c _ c2 => hF c (by omega) (by omega)) (hF 80 (by decide) (by decide)), fun i i0 i1 => ?_, fun z => by omega⟩
         unfold wayZ
         rw [if_neg (by omega), if_pos (by omega)]
         exact hW i i0 i1)
      | (refine ⟨rfl, hF, fun i i0 i1 => ?_, fun _ => hJ⟩
         unfold wayZ
         rw [if_neg (by omega), if_neg (by omega), if_pos (by omega)]
         exact hW i i0 i1)
      | (refine ⟨rfl, hF, fun i i0 i1 => ?_, fun z => by omega⟩
         unfold wayZ
         rw [if_neg (by omega), if_neg (by omega), if_neg (by omega)]
         exact hW i i0 i1)
  · refine w_tsw 49 ta_153 rfl ⟨by omega, by omega⟩ (if_pos h1) ?_
    refine w_aload_n ta_153 rfl rfl ?_
    refine w_cV [_] _ ta_153 rfl rfl rfl mt_152 rfl rfl rfl rfl (Nat.le_of_ble_eq_true rfl) (fun _ => rfl) rfl (cm_findBest _ M hI) ?_
    rintro N ⟨hF, hW⟩
    refine w_vret ta_153 rfl ?_
    first
      | (refine ⟨rfl, sc_89_sc (fun c _ c2 => by rw [hN, sc_n _ _ (by omega)]) (by rw [hN, sc_n _ _ (by decide)]), fun i i0 i1 => ?_, fun z => by omega⟩
         unfold wayZ
         rw [if_pos (by omega), hN, sc_s]
         exact if_pos ⟨i0, i1⟩)
      | (refine ⟨rfl, sc_89_sc (fun c _ c2 => hF c (by omega) (by omega)) (hF 80 (by decide) (by decide)), fun i i0 i1 => ?_, fun z => by omega⟩
         unfold wayZ
         rw [if_neg (by omega), if_pos (by omega)]
         exact hW i i0 i1)
      | (refine ⟨rfl, hF, fun i i0 i1 => ?_, fun _ => hJ⟩
         unfold wayZ
         rw [if_neg (by omega), if_neg (by omega), if_pos (by omega)]
         exact hW i i0 i1)
      | (refine ⟨rfl, hF, fun i i0 i1 => ?_, fun z => by omega⟩
         unfold wayZ
         rw [if_neg (by omega), if_neg (by omega), if_neg (by omega)]
         exact hW i i0 i1)
def TkX (w : Int) (M M' : Mem) : Prop := (∀ c, c < 80 ∨ (82 ≤ c ∧ c ≤ 83) ∨ c = 86 ∨ 95 ≤ c → M' c = M c) ∧ M' 80 7 = M 80 7 ∧ M' 80 12 = M 80 12 ∧ M' 80 25 = M 80 25 ∧ (∀ z, z < 37 → M' 81 z = M 81 z) ∧ ∀ i, 0 ≤ i → i < M 81 0 → M' 81 (37 + i) = wayZ w (mC M) (M 81 0) (M 81 1) i
set_option maxHeartbeats 4000000 in
set_option maxRecDepth 20000 in
theorem cm_take (D : Nat) (M : Mem) (hI : MdI M) (w : Int) (hw : inR w) : CI (D + 6) 158 [.inr (.inr 80), .inl w] M (fun v M' => (¬ (0 ≤ w ∧ w < 4) ∧ v = -1 ∧ M' = M) ∨ ((0 ≤ w ∧ w < 4) ∧ (w = 3 ∧ 9 < M 81 0) ∧ v = -2 ∧ M' = M) ∨ ((0 ≤ w ∧ w < 4) ∧ ¬ (w = 3 ∧ 9 < M 81 0) ∧ v = grZ (fun g => sumG (mH M) (wayZ w (mC M) (M 81 0) (M 81 1)) (M 81 0) g) (M 81 1) - lsZ (fun g => sumG (mH M) (wayZ w (mC M) (M 81 0) (M 81 1)) (M 81 0) g) (M 81 1) ∧ TkX w M M')) := by
  refine mk_C mt_158 rfl (Nat.le_of_ble_eq_true rfl) (L := [some _, some _]) rfl ?_
  obtain ⟨n0, n1, k0, k1, f0, f1, r0, r1, s0, s1, hA⟩ := id hI
  obtain ⟨w0, w1⟩ := id hw
  refine w_aload_n ta_158 rfl rfl ?_
  refine w_iload_n ta_158 rfl rfl ?_
  refine w_cI [_, _] _ ta_158 rfl rfl rfl mt_156 rfl rfl rfl rfl (Nat.le_of_ble_eq_true rfl) (fun _ => rfl) rfl (cm_isWay _ M w hw) ?_
  rintro v M2 ⟨hv, rfl⟩
  refine w_if_ne ta_158 rfl ⟨by omega, by omega⟩ (fun h5 => ?_) (fun h5 => ?_)
  · refine w_aload_n ta_158 rfl rfl ?_
    refine w_iload_n ta_158 rfl rfl ?_
    refine w_cI [_, _] _ ta_158 rfl rfl rfl mt_157 rfl rfl rfl rfl (Nat.le_of_ble_eq_true rfl) (fun _ => rfl) rfl (cm_isTooMuch _ M2 hI w hw) ?_
    rintro v2 M3 ⟨hv2, rfl⟩
    refine w_if_eq ta_158 rfl ⟨by omega, by omega⟩ (fun h15 => ?_) (fun h15 => ?_)
    · refine w_aload_n ta_158 rfl rfl ?_
      refine w_iload_n ta_158 rfl rfl ?_
      refine w_cV [_, _] _ ta_158 rfl rfl rfl mt_153 rfl rfl rfl rfl (Nat.le_of_ble_eq_true rfl) (fun _ => rfl) rfl (cm_find _ M3 hI w (by omega) (by omega)) ?_
      rintro N ⟨hF, hW, hJ⟩
      have e1 := hF.e1
      refine w_aload_n ta_158 rfl rfl ?_
      refine w_cV [_] _ ta_158 rfl rfl rfl mt_154 rfl rfl rfl rfl (Nat.le_of_ble_eq_true rfl) (fun _ => rfl) rfl (cm_takeFound _ N (by rw [e1]; exact n0) (by rw [e1]; exact n1)) ?_
      rintro N2 hN2
      have hI2 : MdI N2 := tf_I (hF.I hI) (N 89) (by rw [hN2, sc_s]) (fun i i0 i1 => by rw [e1] at i1 ⊢; rw [hW i i0 i1]; exact wayZ_b k0 k1 n1 (hcM hI) i i0 i1)
      have el : ∀ z, z < 37 → N2 81 z = M3 81 z := fun z hz => by rw [hN2, sc_s, tfF_l _ _ _ hz, e1]
      have eg : ∀ i, 0 ≤ i → i < M3 81 0 → N2 81 (37 + i) = wayZ w (mC M3) (M3 81 0) (M3 81 1) i := fun i i0 i1 => by rw [hN2, sc_s, e1, tfF_g _ _ i0 i1]; exact hW i i0 i1
      refine w_aload_n ta_158 rfl rfl ?_
      refine w_cI [_] _ ta_158 rfl rfl rfl mt_130 rfl rfl rfl rfl (Nat.le_of_ble_eq_true rfl) (fun _ => rfl) rfl (cm_spreadNow _ N2 hI2) ?_
      rintro s N3 ⟨hs, hS⟩
      refine w_iret ta_158 rfl (Or.inl rfl) ?_
      have hS2 := hS.sc
      refine ⟨_, rfl, Or.inr (Or.inr ⟨by omega, by omega, ?_, fun c hc => ?_, ?_, ?_, ?_, fun z hz => ?_, fun i i0 i1 => ?_⟩)⟩
      · have eS : mS N2 21 = fun g => sumG (mH M3) (wayZ w (mC M3) (M3 81 0) (M3 81 1)) (M3 81 0) g := by
          funext g
          show sumG (fun i => N2 81 (21 + i)) (fun i => N2 81 (37 + i)) (N2 81 0) g = _
          rw [el 0 (by omega)]
          exact sumG_cg g (fun i i0 i1 => el (21 + i) (by omega)) eg
        rw [hs, eS, el 1 (by omega)]
      · rw [hS.1 c (by omega), hN2, sc_n _ _ (by omega)]; exact hF.1 c (by omega)
      · rw [hS.1 80 (by decide), hN2, sc_n _ _ (by decide)]; exact hF.2.1
      · rw [hS.1 80 (by decide), hN2, sc_n _ _ (by decide)]; exact hF.2.2.1
      · rw [hS.1 80 (by decide), hN2, sc_n _ _ (by decide)]; exact hF.2.2.2
      · rw [hS.1 81 (by decide)]; exact el z hz
      · rw [hS.1 81 (by decide)]; exact eg i i0 i1
    · refine w_bipush ta_158 rfl ?_
      refine w_iret ta_158 rfl (Or.inl rfl) ?_
      exact ⟨_, rfl, Or.inr (Or.inl ⟨by omega, by omega, rfl, rfl⟩)⟩
  · refine w_iconst ta_158 rfl ?_
    refine w_iret ta_158 rfl (Or.inl rfl) ?_
    exact ⟨_, rfl, Or.inl ⟨by omega, rfl, rfl⟩⟩
set_option maxHeartbeats 4000000 in
set_option maxRecDepth 20000 in
theorem cm_would (D : Nat) (M : Mem) (hI : MdI M) (w x : Int) (hw : inR w) (hx : inR x) : CI (D + 6) 160 [.inr (.inr 80), .inl w, .inl x] M (fun v M' => (¬ ((0 ≤ w ∧ w < 4) ∧ 0 ≤ x ∧ x ≤ 2) ∧ v = -1 ∧ M' = M) ∨ (((0 ≤ w ∧ w < 4) ∧ 0 ≤ x ∧ x ≤ 2) ∧ (w = 3 ∧ 9 < M 81 0) ∧ v = -2 ∧ M' = M) ∨ (((0 ≤ w ∧ w < 4) ∧ 0 ≤ x ∧ x ≤ 2) ∧ ¬ (w = 3 ∧ 9 < M 81 0) ∧ v = woZ w x (mC M) (M 81 0) (M 81 1) (mG M) ∧ ScM M M')) := by
  refine mk_C mt_160 rfl (Nat.le_of_ble_eq_true rfl) (L := [some _, some _, some _]) rfl ?_
  obtain ⟨n0, n1, k0, k1, f0, f1, r0, r1, s0, s1, hA⟩ := id hI
  obtain ⟨w0, w1⟩ := id hw
  obtain ⟨x0, x1⟩ := id hx
  refine w_aload_n ta_160 rfl rfl ?_
  refine w_iload_n ta_160 rfl rfl ?_
  refine w_cI [_, _] _ ta_160 rfl rfl rfl mt_156 rfl rfl rfl rfl (Nat.le_of_ble_eq_true rfl) (fun _ => rfl) rfl (cm_isWay _ M w hw) ?_
  rintro v M2 ⟨hv, rfl⟩
  refine w_if_eq ta_160 rfl ⟨by omega, by omega⟩ (fun h5 => ?_) (fun h5 => ?_)
  · refine w_iconst ta_160 rfl ?_
    refine w_iret ta_160 rfl (Or.inl rfl) ?_
    exact ⟨_, rfl, Or.inl ⟨by omega, rfl, rfl⟩⟩
  · refine w_iload_n ta_160 rfl rfl ?_
    refine w_i2l ta_160 rfl ⟨by omega, by omega⟩ ?_
    refine w_lconst ta_160 rfl ?_
    refine w_ldc2_w ta_160 rfl ?_
    refine w_cI [_, _, _] _ ta_160 rfl rfl rfl mt_106 rfl rfl rfl rfl (Nat.le_of_ble_eq_true rfl) (fun q => by cases q) rfl (cm_in _ x 0 2 M2 (by constructor <;> omega) (by constructor <;> omega) (by constructor <;> omega)) ?_
    rintro v2 M3 ⟨hv2, rfl⟩
    refine w_if_ne ta_160 rfl ⟨by omega, by omega⟩ (fun h17 => ?_) (fun h17 => ?_)
    · refine w_aload_n ta_160 rfl rfl ?_
      refine w_iload_n ta_160 rfl rfl ?_
      refine w_cI [_, _] _ ta_160 rfl rfl rfl mt_157 rfl rfl rfl rfl (Nat.le_of_ble_eq_true rfl) (fun _ => rfl) rfl (cm_isTooMuch _ M3 hI w hw) ?_
      rintro v3 M4 ⟨hv3, rfl⟩
      refine w_if_eq ta_160 rfl ⟨by omega, by omega⟩ (fun h27 => ?_) (fun h27 => ?_)
      · refine w_aload_n ta_160 rfl rfl ?_
        refine w_iload_n ta_160 rfl rfl ?_
        refine w_cV [_, _] _ ta_160 rfl rfl rfl mt_153 rfl rfl rfl rfl (Nat.le_of_ble_eq_true rfl) (fun _ => rfl) rfl (cm_find _ M4 hI w (by omega) (by omega)) ?_
        rintro N ⟨hF, hW, hJ⟩
        have e1 := hF.e1
        have hIN := hF.I hI
        have eW := mW_w hF hW
        refine w_aload_n ta_160 rfl rfl ?_
        refine w_cV [_] _ ta_160 rfl rfl rfl mt_126 rfl rfl rfl rfl (Nat.le_of_ble_eq_true rfl) (fun _ => rfl) rfl (cm_sumFound _ N hIN (fun i i0 i1 => by rw [e1] at i1 ⊢; rw [hW i i0 i1]; exact wayZ_b k0 k1 n1 (hcM hI) i i0 i1)) ?_
        rintro N2 hS
        have hr := hS.r hIN
        have e2 : N2 81 = M4 81 := (hS.1 81 (by decide)).trans e1
        have hI2 : MdI N2 := hI.of e2
        have eL := hS.ls hIN
        have eG := hS.gr hIN
        rw [eW, e1] at eL eG
        have lb := ls_b (w := w) (k := M4 81 1) n1 (hcM hI)
        have hT : ScM M4 N2 := hF.tr hS.sc
        refine w_iload_n ta_160 rfl rfl ?_
        refine w_if_ne ta_160 rfl ⟨by omega, by omega⟩ (fun h43 => ?_) (fun h43 => ?_)
        · refine w_iload_n ta_160 rfl rfl ?_
          refine w_iconst ta_160 rfl ?_
          refine w_icmp_ne ta_160 rfl ⟨by omega, by omega⟩ ⟨by omega, by omega⟩ (fun h55 => ?_) (fun h55 => ?_)
          · refine w_aload_n ta_160 rfl rfl ?_
            refine w_cI [_] _ ta_160 rfl rfl rfl mt_159 rfl rfl rfl rfl (Nat.le_of_ble_eq_true rfl) (fun _ => rfl) rfl (cm_moved _ N2 hI2 (fun i i0 i1 => by rw [e2] at i1 ⊢; rw [hS.1 89 (by decide), hW i i0 i1]; exact wayZ_b k0 k1 n1 (hcM hI) i i0 i1)) ?_
            rintro s N3 ⟨hs, rfl⟩
            have hs : s = sumZ (fun j => if wayZ w (mC M4) (M4 81 0) (M4 81 1) j ≠ mG M4 j then 1 else 0) (M4 81 0) := by
              rw [hs, show mG N3 = mG M4 by unfold mG; rw [e2], e2]
              exact sumZ_cg (fun j j0 j1 => by rw [hS.1 89 (by decide), hW j j0 j1])
            refine w_iret ta_160 rfl (Or.inl rfl) ?_
            refine ⟨_, rfl, Or.inr (Or.inr ⟨by omega, by omega, ?_, hT⟩)⟩
            unfold woZ
            first
              | (rw [if_pos (by omega)]; exact hs)
              | (rw [if_neg (by omega), if_pos (by omega), hs, hs2])
              | (rw [if_neg (by omega), if_neg (by omega)]; exact hs)
          · refine w_aload_n ta_160 rfl rfl ?_
            refine w_cI [_] _ ta_160 rfl rfl rfl mt_129 rfl rfl rfl rfl (Nat.le_of_ble_eq_true rfl) (fun _ => rfl) rfl (cm_greatest _ N2 hI2 hr) ?_
            rintro s N3 ⟨hs, rfl⟩
            rw [eG] at hs
            refine w_aload_n ta_160 rfl rfl ?_
            refine w_cI [_] _ ta_160 rfl rfl rfl mt_128 rfl rfl rfl rfl (Nat.le_of_ble_eq_true rfl) (fun _ => rfl) rfl (cm_least _ _ hI2 hr) ?_
            rintro s2 N4 ⟨hs2, rfl⟩
            rw [eL] at hs2
            refine w_isub ta_160 rfl ?_
            refine w_goto ta_160 rfl ?_
            refine w_iret ta_160 rfl (Or.inl rfl) ?_
            refine ⟨_, rfl, Or.inr (Or.inr ⟨by omega, by omega, ?_, hT⟩)⟩
            unfold woZ
            first
              | (rw [if_pos (by omega)]; exact hs)
              | (rw [if_neg (by omega), if_pos (by omega), hs, hs2])
              | (rw [if_neg (by omega), if_neg (by omega)]; exact hs)
        · refine w_aload_n ta_160 rfl rfl ?_
          refine w_cI [_] _ ta_160 rfl rfl rfl mt_128 rfl rfl rfl rfl (Nat.le_of_ble_eq_true rfl) (fun _ => rfl) rfl (cm_least _ N2 hI2 hr) ?_
          rintro s N3 ⟨hs, rfl⟩
          rw [eL] at hs
          refine w_goto ta_160 rfl ?_
          refine w_iret ta_160 rfl (Or.inl rfl) ?_
          refine ⟨_, rfl, Or.inr (Or.inr ⟨by omega, by omega, ?_, hT⟩)⟩
          unfold woZ
          first
            | (rw [if_pos (by omega)]; exact hs)
            | (rw [if_neg (by omega), if_pos (by omega), hs, hs2])
            | (rw [if_neg (by omega), if_neg (by omega)]; exact hs)
      · refine w_bipush ta_160 rfl ?_
        refine w_iret ta_160 rfl (Or.inl rfl) ?_
        exact ⟨_, rfl, Or.inr (Or.inl ⟨by omega, by omega, rfl, rfl⟩)⟩
    · refine w_iconst ta_160 rfl ?_
      refine w_iret ta_160 rfl (Or.inl rfl) ?_
      exact ⟨_, rfl, Or.inl ⟨by omega, rfl, rfl⟩⟩
set_option maxHeartbeats 4000000 in
set_option maxRecDepth 20000 in
theorem cm_where (D : Nat) (M : Mem) (hI : MdI M) (w x : Int) (hw : inR w) (hx : inR x) : CI (D + 6) 161 [.inr (.inr 80), .inl w, .inl x] M (fun v M' => (¬ ((0 ≤ w ∧ w < 4) ∧ 0 ≤ x ∧ x < M 81 0) ∧ v = -1 ∧ M' = M) ∨ (((0 ≤ w ∧ w < 4) ∧ 0 ≤ x ∧ x < M 81 0) ∧ (w = 3 ∧ 9 < M 81 0) ∧ v = -2 ∧ M' = M) ∨ (((0 ≤ w ∧ w < 4) ∧ 0 ≤ x ∧ x < M 81 0) ∧ ¬ (w = 3 ∧ 9 < M 81 0) ∧ v = wayZ w (mC M) (M 81 0) (M 81 1) x ∧ ScM M M')) := by
  refine mk_C mt_161 rfl (Nat.le_of_ble_eq_true rfl) (L := [some _, some _, some _]) rfl ?_
  obtain ⟨n0, n1, k0, k1, f0, f1, r0, r1, s0, s1, hA⟩ := id hI
  obtain ⟨w0, w1⟩ := id hw
  obtain ⟨x0, x1⟩ := id hx
  refine w_aload_n ta_161 rfl rfl ?_
  refine w_iload_n ta_161 rfl rfl ?_
  refine w_cI [_, _] _ ta_161 rfl rfl rfl mt_156 rfl rfl rfl rfl (Nat.le_of_ble_eq_true rfl) (fun _ => rfl) rfl (cm_isWay _ M w hw) ?_
  rintro v M2 ⟨hv, rfl⟩
  refine w_if_eq ta_161 rfl ⟨by omega, by omega⟩ (fun h5 => ?_) (fun h5 => ?_)
  · refine w_iconst ta_161 rfl ?_
    refine w_iret ta_161 rfl (Or.inl rfl) ?_
    exact ⟨_, rfl, Or.inl ⟨by omega, rfl, rfl⟩⟩
  · refine w_aload_n ta_161 rfl rfl ?_
    refine w_iload_n ta_161 rfl rfl ?_
    refine w_cI [_, _] _ ta_161 rfl rfl rfl mt_123 rfl rfl rfl rfl (Nat.le_of_ble_eq_true rfl) (fun _ => rfl) rfl (cm_isCell _ M2 hI x hx) ?_
    rintro v2 M3 ⟨hv2, rfl⟩
    refine w_if_ne ta_161 rfl ⟨by omega, by omega⟩ (fun h13 => ?_) (fun h13 => ?_)
    · refine w_aload_n ta_161 rfl rfl ?_
      refine w_iload_n ta_161 rfl rfl ?_
      refine w_cI [_, _] _ ta_161 rfl rfl rfl mt_157 rfl rfl rfl rfl (Nat.le_of_ble_eq_true rfl) (fun _ => rfl) rfl (cm_isTooMuch _ M3 hI w hw) ?_
      rintro v3 M4 ⟨hv3, rfl⟩
      refine w_if_eq ta_161 rfl ⟨by omega, by omega⟩ (fun h23 => ?_) (fun h23 => ?_)
      · refine w_aload_n ta_161 rfl rfl ?_
        refine w_iload_n ta_161 rfl rfl ?_
        refine w_cV [_, _] _ ta_161 rfl rfl rfl mt_153 rfl rfl rfl rfl (Nat.le_of_ble_eq_true rfl) (fun _ => rfl) rfl (cm_find _ M4 hI w (by omega) (by omega)) ?_
        rintro N ⟨hF, hW, hJ⟩
        refine w_aload_n ta_161 rfl rfl ?_
        refine w_getR ta_161 rfl rfl ?_
        refine w_iload_n ta_161 rfl rfl ?_
        refine w_ialoadv (v := wayZ w (mC M4) (M4 81 0) (M4 81 1) x) ta_161 rfl rfl (by omega) (by omega) (by omega) (hW x (by omega) (by omega)) ?_
        refine w_iret ta_161 rfl (Or.inl rfl) ?_
        exact ⟨_, rfl, Or.inr (Or.inr ⟨by omega, by omega, rfl, hF⟩)⟩
      · refine w_bipush ta_161 rfl ?_
        refine w_iret ta_161 rfl (Or.inl rfl) ?_
        exact ⟨_, rfl, Or.inr (Or.inl ⟨by omega, by omega, rfl, rfl⟩)⟩
    · refine w_iconst ta_161 rfl ?_
      refine w_iret ta_161 rfl (Or.inl rfl) ?_
      exact ⟨_, rfl, Or.inl ⟨by omega, rfl, rfl⟩⟩
theorem sumG_all {v h : Int → Int} {k : Int} : ∀ n : Nat, (∀ i : Int, 0 ≤ i → i < n → 0 ≤ h i ∧ h i < k) → sumZ (fun g => sumG v h n g) k = sumZ v n
  | 0, _ => by
    show sumZ (fun g => sumZ (fun i => if h i = g then v i else 0) 0) k = 0
    exact sumZ_c0 k
  | n + 1, hb => by
    have b := hb n (by omega) (by omega)
    have ih := sumG_all (v := v) n (fun i i0 i1 => hb i i0 (by omega))
    rw [show ((n + 1 : Nat) : Int) = (n : Int) + 1 by omega, sumZ_s _ (by omega), ← ih, ← sumZ_one (v n) b.1 b.2, ← sumZ_add]
    refine sumZ_cg (fun g g0 g1 => ?_)
    rw [sumG_s _ _ _ (by omega)]
    by_cases e : g = h n
    · rw [if_pos e, if_pos e.symm]
    · rw [if_neg e, if_neg (fun q => e q.symm)]
theorem sumZ_k (c : Int) {k : Int} (hk : 0 ≤ k) : sumZ (fun _ => c) k = k * c := by
  have : ∀ n : Nat, sumN (fun _ => c) n = n * c := by
    intro n
    induction n with
    | zero => simp [sumN]
    | succ n ih => simp only [sumN]; rw [ih, show ((n + 1 : Nat) : Int) = (n : Int) + 1 by omega, Int.add_mul, Int.one_mul]
  unfold sumZ
  rw [this, show ((k.toNat : Nat) : Int) = k by omega]
/-- no way goes beyond the bound -/
theorem ls_le {w : Int} {ch : Int → Int} {n k : Int} (n0 : 0 ≤ n) (k0 : 2 ≤ k) (k1 : k ≤ 5) (hn : n ≤ 16) (hc : ∀ i, 0 ≤ i → i < n → 1 ≤ ch i ∧ ch i ≤ 999) : lsZ (waS w ch n k) k ≤ sumZ ch n / k := by
  have a := sumG_all (v := ch) (h := wayZ w ch n k) (k := k) n.toNat (fun i i0 i1 => wayZ_b k0 k1 hn hc i i0 (by omega))
  rw [show ((n.toNat : Nat) : Int) = n by omega] at a
  have b : sumZ (fun _ => lsZ (waS w ch n k) k) k ≤ sumZ (fun g => sumG ch (wayZ w ch n k) n g) k := sumZ_le (fun g g0 g1 => lsZ_le (waS w ch n k) g0 g1)
  rw [a, sumZ_k _ (by omega)] at b
  exact Int.le_ediv_of_mul_le (by omega) (by rw [Int.mul_comm]; exact b)
set_option maxHeartbeats 4000000 in
set_option maxRecDepth 20000 in
theorem lm_reach (D : Nat) (M : Mem) (hI : MdI M) : ∀ w : Int, 0 ≤ w → w ≤ 3 → ∀ N, ScM M N → Wp (D + 6) 163 (4, [some (.inr (.inr 80)), some (.inl (reZ (sumZ (mC M) (M 81 0) / M 81 1) (mC M) (M 81 0) (M 81 1) w)), some (.inl w)], [], N) (fun r M' => ∃ v, r = some (.inl v) ∧ (v = reZ (sumZ (mC M) (M 81 0) / M 81 1) (mC M) (M 81 0) (M 81 1) 3 ∧ ScM M M')) := by
  obtain ⟨n0, n1, k0, k1, f0, f1, r0, r1, s0, s1, hA⟩ := id hI
  refine loopZ 3 ?_
  intro w h0 h1 ih N hN
  refine w_iload_n ta_163 rfl rfl ?_
  refine w_iconst ta_163 rfl ?_
  refine w_icmp_ge ta_163 rfl ⟨by omega, by omega⟩ ⟨by omega, by omega⟩ (fun h6 => ?_) (fun h6 => ?_)
  · refine w_iload_n ta_163 rfl rfl ?_
    refine w_iret ta_163 rfl (Or.inl rfl) ?_
    exact ⟨_, rfl, by rw [show w = 3 by omega], hN⟩
  · have hIN := hN.I hI
    have e1 := hN.e1
    have eC : mC N = mC M := by unfold mC; rw [e1]
    have ih := ih h6
    have lb := ls_b (w := w) (k := M 81 1) n1 (hcM hI)
    have ll := ls_le (w := w) n0 k0 k1 n1 (hcM hI)
    have tb := sumZ_b (f := mC M) (n := M 81 0) 999 n1 (by omega) (fun i i0 i1 => by have := hcM hI i i0 i1; omega)
    have t1 := Int.ediv_nonneg tb.1 (show 0 ≤ M 81 1 by omega)
    have t2 := Int.ediv_le_self (M 81 1) tb.1
    unfold reZ at ih
    rw [sumZ_s _ h0] at ih
    refine w_aload_n ta_163 rfl rfl ?_
    refine w_iload_n ta_163 rfl rfl ?_
    refine w_cV [_, _] _ ta_163 rfl rfl rfl mt_153 rfl rfl rfl rfl (Nat.le_of_ble_eq_true rfl) (fun _ => rfl) rfl (cm_find _ N hIN w h0 (by omega)) ?_
    rintro N2 ⟨hF, hW, hJ⟩
    have eW := mW_w hF hW
    rw [eC, e1] at eW hW
    have e2 : N2 81 = M 81 := hF.e1.trans e1
    have hI2 : MdI N2 := hI.of e2
    refine w_aload_n ta_163 rfl rfl ?_
    refine w_cV [_] _ ta_163 rfl rfl rfl mt_126 rfl rfl rfl rfl (Nat.le_of_ble_eq_true rfl) (fun _ => rfl) rfl (cm_sumFound _ N2 hI2 (fun i i0 i1 => by rw [e2] at i1 ⊢; rw [hW i i0 i1]; exact wayZ_b k0 k1 n1 (hcM hI) i i0 i1)) ?_
    rintro N3 hS
    have hr := hS.r hI2
    have e3 : N3 81 = M 81 := (hS.1 81 (by decide)).trans e2
    have hI3 : MdI N3 := hI.of e3
    have eL := hS.ls hI2
    rw [eW, e2] at eL
    have hT : ScM M N3 := (hN.tr hF).tr hS.sc
    refine w_iload_n ta_163 rfl rfl ?_
    refine w_aload_n ta_163 rfl rfl ?_
    refine w_cI [_] _ ta_163 rfl rfl rfl mt_128 rfl rfl rfl rfl (Nat.le_of_ble_eq_true rfl) (fun _ => rfl) rfl (cm_least _ N3 hI3 hr) ?_
    rintro s N4 ⟨hs, rfl⟩
    rw [eL] at hs
    refine w_aload_n ta_163 rfl rfl ?_
    refine w_cI [_] _ ta_163 rfl rfl rfl mt_162 rfl rfl rfl rfl (Nat.le_of_ble_eq_true rfl) (fun _ => rfl) rfl (cm_boundNow _ _ hI3) ?_
    rintro u N5 ⟨hu, rfl⟩
    have hu : u = sumZ (mC M) (M 81 0) / M 81 1 := by rw [hu, show mC N5 = mC M by unfold mC; rw [e3], e3]
    refine w_icmp_ne ta_163 rfl ⟨by omega, by omega⟩ ⟨by omega, by omega⟩ (fun h27 => ?_) (fun h27 => ?_)
    · refine w_iconst ta_163 rfl ?_
      refine w_cI [_] _ ta_163 rfl rfl rfl mt_107 rfl rfl rfl rfl (Nat.le_of_ble_eq_true rfl) (fun q => by cases q) rfl (cm_flag _ _ _ (by omega)) ?_
      rintro x N6 ⟨hx, rfl⟩
      refine w_iadd ta_163 rfl ?_
      refine w_istn_1_3 ta_163 rfl rfl ?_
      refine w_iinc_2_3 ta_163 rfl rfl ?_
      refine w_goto ta_163 rfl ?_
      first
        | (rw [if_pos (by omega)] at ih; subst hx; exact ih _ hT)
        | (rw [if_neg (by omega)] at ih; subst hx; exact ih _ hT)
    · refine w_iconst ta_163 rfl ?_
      refine w_goto ta_163 rfl ?_
      refine w_cI [_] _ ta_163 rfl rfl rfl mt_107 rfl rfl rfl rfl (Nat.le_of_ble_eq_true rfl) (fun q => by cases q) rfl (cm_flag _ _ _ (by omega)) ?_
      rintro x N6 ⟨hx, rfl⟩
      refine w_iadd ta_163 rfl ?_
      refine w_istn_1_3 ta_163 rfl rfl ?_
      refine w_iinc_2_3 ta_163 rfl rfl ?_
      refine w_goto ta_163 rfl ?_
      first
        | (rw [if_pos (by omega)] at ih; subst hx; exact ih _ hT)
        | (rw [if_neg (by omega)] at ih; subst hx; exact ih _ hT)
set_option maxHeartbeats 4000000 in
set_option maxRecDepth 20000 in
theorem cm_reach (D : Nat) (M : Mem) (hI : MdI M) : CI (D + 6) 163 [.inr (.inr 80)] M (fun v M' => v = reZ (sumZ (mC M) (M 81 0) / M 81 1) (mC M) (M 81 0) (M 81 1) 3 ∧ ScM M M') := by
  refine mk_C mt_163 rfl (Nat.le_of_ble_eq_true rfl) (L := [some _, none, none]) rfl ?_
  refine w_iconst ta_163 rfl ?_
  refine w_istn_1_3 ta_163 rfl rfl ?_
  refine w_iconst ta_163 rfl ?_
  refine w_istn_2_3 ta_163 rfl rfl ?_
  exact lm_reach D M hI 0 (by omega) (by omega) M (ScM.rf M)
set_option maxHeartbeats 4000000 in
set_option maxRecDepth 20000 in
theorem cm_bound (D : Nat) (M : Mem) (hI : MdI M) (x : Int) (hx : inR x) : CI (D + 7) 164 [.inr (.inr 80), .inl x] M (fun v M' => v = boZ x (mC M) (M 81 0) (M 81 1) (mG M) ∧ ScM M M') := by
  refine mk_C mt_164 rfl (Nat.le_of_ble_eq_true rfl) (L := [some _, some _]) rfl ?_
  obtain ⟨n0, n1, k0, k1, f0, f1, r0, r1, s0, s1, hA⟩ := id hI
  obtain ⟨x0, x1⟩ := id hx
  refine w_iload_n ta_164 rfl rfl ?_
  rcases (show x = 0 ∨ x = 1 ∨ x = 2 ∨ (x < 0 ∨ 2 < x) by omega) with h1 | h1 | h1 | h1
  · refine w_tsw 28 ta_164 rfl ⟨by omega, by omega⟩ (by rw [h1]; rfl) ?_
    refine w_aload_n ta_164 rfl rfl ?_
    refine w_cI [_] _ ta_164 rfl rfl rfl mt_162 rfl rfl rfl rfl (Nat.le_of_ble_eq_true rfl) (fun _ => rfl) rfl (cm_boundNow _ M hI) ?_
    rintro s M2 ⟨hs, rfl⟩
    refine w_iret ta_164 rfl (Or.inl rfl) ?_
    refine ⟨_, rfl, ?_, ScM.rf _⟩
    unfold boZ
    rw [if_pos (by omega)]
    exact hs
  · refine w_tsw 33 ta_164 rfl ⟨by omega, by omega⟩ (by rw [h1]; rfl) ?_
    refine w_aload_n ta_164 rfl rfl ?_
    refine w_cI [_] _ ta_164 rfl rfl rfl mt_162 rfl rfl rfl rfl (Nat.le_of_ble_eq_true rfl) (fun _ => rfl) rfl (cm_boundNow _ M hI) ?_
    rintro s M2 ⟨hs, rfl⟩
    refine w_aload_n ta_164 rfl rfl ?_
    refine w_iconst ta_164 rfl ?_
    refine w_cI [_, _] _ ta_164 rfl rfl rfl mt_133 rfl rfl rfl rfl (Nat.le_of_ble_eq_true rfl) (fun _ => rfl) rfl (cm_leastNow _ M2 hI 5 (Or.inl rfl)) ?_
    rintro u M3 ⟨hu, hS⟩
    refine w_isub ta_164 rfl ?_
    refine w_iret ta_164 rfl (Or.inl rfl) ?_
    refine ⟨_, rfl, ?_, hS.sc⟩
    unfold boZ
    rw [if_neg (by omega), if_pos (by omega), hs, hu]
  · refine w_tsw 44 ta_164 rfl ⟨by omega, by omega⟩ (by rw [h1]; rfl) ?_
    refine w_aload_n ta_164 rfl rfl ?_
    refine w_cI [_] _ ta_164 rfl rfl rfl mt_163 rfl rfl rfl rfl (Nat.le_of_ble_eq_true rfl) (fun _ => rfl) rfl (cm_reach _ M hI) ?_
    rintro s M2 ⟨hs, hT⟩
    refine w_iret ta_164 rfl (Or.inl rfl) ?_
    refine ⟨_, rfl, ?_, hT⟩
    unfold boZ
    rw [if_neg (by omega), if_neg (by omega), if_pos (by omega)]
    exact hs
  · refine w_tsw 49 ta_164 rfl ⟨by omega, by omega⟩ (if_pos h1) ?_
    refine w_iconst ta_164 rfl ?_
    refine w_iret ta_164 rfl (Or.inl rfl) ?_
    refine ⟨_, rfl, ?_, ScM.rf _⟩
    unfold boZ
    rw [if_neg (by omega), if_neg (by omega), if_neg (by omega)]
set_option maxHeartbeats 4000000 in
set_option maxRecDepth 20000 in
theorem cm_joined (D : Nat) (M : Mem) (hI : MdI M) (x : Int) (hx : inR x) : CI (D + 5) 165 [.inr (.inr 80), .inl x] M (fun v M' => v = joZ x (mC M) (M 81 0) (M 81 1) ∧ ScM M M') := by
  refine mk_C mt_165 rfl (Nat.le_of_ble_eq_true rfl) (L := [some _, some _]) rfl ?_
  obtain ⟨n0, n1, k0, k1, f0, f1, r0, r1, s0, s1, hA⟩ := id hI
  obtain ⟨x0, x1⟩ := id hx
  refine w_iload_n ta_165 rfl rfl ?_
  refine w_if_ge ta_165 rfl ⟨by omega, by omega⟩ (fun h1 => ?_) (fun h1 => ?_)
  · refine w_aload_n ta_165 rfl rfl ?_
    refine w_cV [_] _ ta_165 rfl rfl rfl mt_150 rfl rfl rfl rfl (Nat.le_of_ble_eq_true rfl) (fun _ => rfl) rfl (cm_findDifferences _ M hI) ?_
    rintro N ⟨hF, hW, hJ⟩
    refine w_iload_n ta_165 rfl rfl ?_
    refine w_aload_n ta_165 rfl rfl ?_
    refine w_getIv 21 (v := ((M 81 0 - 1).toNat : Int)) ta_165 rfl rfl rfl hJ.1 ?_
    refine w_icmp_ge ta_165 rfl ⟨by omega, by omega⟩ ⟨by omega, by omega⟩ (fun h15 => ?_) (fun h15 => ?_)
    · refine w_bipush ta_165 rfl ?_
      refine w_iret ta_165 rfl (Or.inl rfl) ?_
      refine ⟨_, rfl, ?_, hF⟩
      unfold joZ
      first
        | rw [if_neg (by omega), if_pos (by omega)]
        | rw [if_neg (by omega), if_neg (by omega)]
    · refine w_bipush ta_165 rfl ?_
      refine w_aload_n ta_165 rfl rfl ?_
      refine w_getR ta_165 rfl rfl ?_
      refine w_iload_n ta_165 rfl rfl ?_
      refine w_ialoadv (v := d1 (mC M) (M 81 0) (M 81 1) x.toNat) ta_165 rfl rfl (by omega) (by omega) (by omega) (by have q := (hJ.2 x.toNat (by omega)).1; rw [show ((x.toNat : Nat) : Int) = x by omega] at q; exact q) ?_
      refine w_imul ta_165 rfl ?_
      refine w_aload_n ta_165 rfl rfl ?_
      refine w_getR ta_165 rfl rfl ?_
      refine w_iload_n ta_165 rfl rfl ?_
      refine w_ialoadv (v := d2 (mC M) (M 81 0) (M 81 1) x.toNat) ta_165 rfl rfl (by omega) (by omega) (by omega) (by have q := (hJ.2 x.toNat (by omega)).2; rw [show ((x.toNat : Nat) : Int) = x by omega] at q; exact q) ?_
      refine w_iadd ta_165 rfl ?_
      refine w_goto ta_165 rfl ?_
      refine w_iret ta_165 rfl (Or.inl rfl) ?_
      refine ⟨_, rfl, ?_, hF⟩
      unfold joZ
      first
        | rw [if_neg (by omega), if_pos (by omega)]
        | rw [if_neg (by omega), if_neg (by omega)]
  · refine w_iconst ta_165 rfl ?_
    refine w_iret ta_165 rfl (Or.inl rfl) ?_
    exact ⟨_, rfl, by unfold joZ; rw [if_pos (by omega)], ScM.rf _⟩
set_option maxHeartbeats 4000000 in
set_option maxRecDepth 20000 in
theorem lm_findTurns2 (D : Nat) (M : Mem) (n0 : 0 ≤ M 81 0) (n1 : M 81 0 ≤ 16) (k0 : 2 ≤ M 81 1) (k1 : M 81 1 ≤ 5) : ∀ i : Int, 0 ≤ i → i ≤ M 81 0 → Wp D 142 (2, [some (.inr (.inr 80)), some (.inl i)], [], setC M 89 (mdF (M 89) (M 81 1) i)) (fun r M' => r = none ∧ M' = setC M 89 (mdF (M 89) (M 81 1) (M 81 0))) := by
  refine loopZ (M 81 0) ?_
  intro i h0 h1 ih
  refine w_iload_n ta_142 rfl rfl ?_
  refine w_aload_n ta_142 rfl rfl ?_
  refine w_getR ta_142 rfl rfl ?_
  refine w_iconst ta_142 rfl ?_
  refine w_ialoadv (v := M 81 0) ta_142 rfl rfl (by decide) (by decide) (by omega) rfl ?_
  refine w_icmp_ge ta_142 rfl ⟨by omega, by omega⟩ ⟨by omega, by omega⟩ (fun h9 => ?_) (fun h9 => ?_)
  · refine w_vret ta_142 rfl ?_
    exact ⟨rfl, by rw [show i = M 81 0 by omega]⟩
  · refine w_aload_n ta_142 rfl rfl ?_
    refine w_getR ta_142 rfl rfl ?_
    refine w_iload_n ta_142 rfl rfl ?_
    refine w_iload_n ta_142 rfl rfl ?_
    refine w_aload_n ta_142 rfl rfl ?_
    refine w_getR ta_142 rfl rfl ?_
    refine w_iconst ta_142 rfl ?_
    refine w_ialoadv (v := M 81 1) ta_142 rfl rfl (by decide) (by decide) (by omega) rfl ?_
    refine w_irem ta_142 rfl (by omega) (by omega) (by omega) (by omega) ?_
    refine w_iastore ta_142 rfl rfl (by omega) (by omega) (by omega) ?_
    refine w_iinc_1_2 ta_142 rfl rfl ?_
    refine w_goto ta_142 rfl ?_
    rw [wr_sc, mdF_s _ _ h0]
    exact ih h9
set_option maxHeartbeats 4000000 in
set_option maxRecDepth 20000 in
theorem cm_findTurns2 (D : Nat) (M : Mem) (n0 : 0 ≤ M 81 0) (n1 : M 81 0 ≤ 16) (k0 : 2 ≤ M 81 1) (k1 : M 81 1 ≤ 5) : CV D 142 [.inr (.inr 80)] M (fun M' => M' = setC M 89 (mdF (M 89) (M 81 1) (M 81 0))) := by
  refine mk_C mt_142 rfl (Nat.le_of_ble_eq_true rfl) (L := [some _, none]) rfl ?_
  refine w_iconst ta_142 rfl ?_
  refine w_istn_1_2 ta_142 rfl rfl ?_
  have q := lm_findTurns2 D M n0 n1 k0 k1 0 (by omega) n0
  rw [mdF_0, sc_id] at q
  exact q
set_option maxHeartbeats 4000000 in
set_option maxRecDepth 20000 in
theorem cm_byTurns2 (D : Nat) (M : Mem) (n0 : 0 ≤ M 81 0) (n1 : M 81 0 ≤ 16) (k0 : 2 ≤ M 81 1) (k1 : M 81 1 ≤ 5) : CV (D + 1) 155 [.inr (.inr 80)] M (fun M' => (∀ c, c ≠ 81 → c ≠ 89 → M' c = M c) ∧ (∀ z, z < 37 → M' 81 z = M 81 z) ∧ ∀ i, 0 ≤ i → i < M 81 0 → M' 81 (37 + i) = i % M 81 1) := by
  refine mk_C mt_155 rfl (Nat.le_of_ble_eq_true rfl) (L := [some _]) rfl ?_
  refine w_aload_n ta_155 rfl rfl ?_
  refine w_cV [_] _ ta_155 rfl rfl rfl mt_142 rfl rfl rfl rfl (Nat.le_of_ble_eq_true rfl) (fun _ => rfl) rfl (cm_findTurns2 _ M n0 n1 k0 k1) ?_
  rintro M2 hM2
  have e1 : M2 81 = M 81 := by rw [hM2, sc_n _ _ (by decide)]
  refine w_aload_n ta_155 rfl rfl ?_
  refine w_cV [_] _ ta_155 rfl rfl rfl mt_154 rfl rfl rfl rfl (Nat.le_of_ble_eq_true rfl) (fun _ => rfl) rfl (cm_takeFound _ M2 (by rw [e1]; exact n0) (by rw [e1]; exact n1)) ?_
  rintro M3 hM3
  refine w_vret ta_155 rfl ?_
  refine ⟨rfl, fun c c1 c2 => by rw [hM3, sc_n _ _ c1, hM2, sc_n _ _ c2], fun z hz => by rw [hM3, sc_s, tfF_l _ _ _ hz, e1], fun i i0 i1 => ?_⟩
  rw [hM3, sc_s, e1, tfF_g _ _ i0 i1, hM2, sc_s]
  exact if_pos ⟨i0, i1⟩
set_option maxHeartbeats 4000000 in
set_option maxRecDepth 20000 in
theorem cm_groups (D : Nat) (M : Mem) (hI : MdI M) (x : Int) (hx : inR x) : CI (D + 2) 175 [.inr (.inr 80), .inl x] M (fun v M' => (¬ (2 ≤ x ∧ x ≤ 5) ∧ v = -1 ∧ M' = M) ∨ ((2 ≤ x ∧ x ≤ 5) ∧ v = M 81 1 ∧ (∀ c, c ≠ 81 → c ≠ 89 → M' c = M c) ∧ (∀ z, z < 37 → M' 81 z = upI (M 81) 1 x z) ∧ ∀ i, 0 ≤ i → i < M 81 0 → M' 81 (37 + i) = i % x)) := by
  refine mk_C mt_175 rfl (Nat.le_of_ble_eq_true rfl) (L := [some _, some _, none]) rfl ?_
  obtain ⟨n0, n1, k0, k1, f0, f1, r0, r1, s0, s1, hA⟩ := id hI
  obtain ⟨x0, x1⟩ := id hx
  refine w_iload_n ta_175 rfl rfl ?_
  refine w_i2l ta_175 rfl ⟨by omega, by omega⟩ ?_
  refine w_ldc2_w ta_175 rfl ?_
  refine w_ldc2_w ta_175 rfl ?_
  refine w_cI [_, _, _] _ ta_175 rfl rfl rfl mt_106 rfl rfl rfl rfl (Nat.le_of_ble_eq_true rfl) (fun q => by cases q) rfl (cm_in _ x 2 5 M (by constructor <;> omega) (by constructor <;> omega) (by constructor <;> omega)) ?_
  rintro v M2 ⟨hv, rfl⟩
  refine w_if_ne ta_175 rfl ⟨by omega, by omega⟩ (fun h11 => ?_) (fun h11 => ?_)
  · refine w_aload_n ta_175 rfl rfl ?_
    refine w_getR ta_175 rfl rfl ?_
    refine w_iconst ta_175 rfl ?_
    refine w_iaload ta_175 rfl rfl (by decide) (by decide) (by omega) ?_
    refine w_istn_2_3 ta_175 rfl rfl ?_
    refine w_aload_n ta_175 rfl rfl ?_
    refine w_getR ta_175 rfl rfl ?_
    refine w_iconst ta_175 rfl ?_
    refine w_iload_n ta_175 rfl rfl ?_
    refine w_iastore ta_175 rfl rfl (by decide) (by decide) (by omega) ?_
    refine w_aload_n ta_175 rfl rfl ?_
    refine w_cV [_] _ ta_175 rfl rfl rfl mt_155 rfl rfl rfl rfl (Nat.le_of_ble_eq_true rfl) (fun _ => rfl) rfl (cm_byTurns2 _ (wr M2 81 1 x) (by rw [wr_s, up_n _ _ (by decide)]; exact n0) (by rw [wr_s, up_n _ _ (by decide)]; exact n1) (by rw [wr_s, up_s]; omega) (by rw [wr_s, up_s]; omega)) ?_
    rintro N ⟨hF, hZ, hW⟩
    rw [wr_s, up_s, up_n _ _ (by decide)] at hW
    rw [wr_s] at hZ
    refine w_iload_n ta_175 rfl rfl ?_
    refine w_iret ta_175 rfl (Or.inl rfl) ?_
    exact ⟨_, rfl, Or.inr ⟨by omega, rfl, fun c c1 c2 => by rw [hF c c1 c2, wr_n _ _ _ c1], hZ, hW⟩⟩
  · refine w_iconst ta_175 rfl ?_
    refine w_iret ta_175 rfl (Or.inl rfl) ?_
    exact ⟨_, rfl, Or.inl ⟨by omega, rfl, rfl⟩⟩
