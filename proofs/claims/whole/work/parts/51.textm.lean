/-! the reference's text -/
set_option maxHeartbeats 4000000 in
set_option maxRecDepth 20000 in
theorem lp_fd1 (D : Nat) (N : Mem) (P : Option AV → Mem → Prop) (hP : Wp (D + 0) 108 (21, [some (.inr (.inr 80)), some (.inl 53)], [], setC N 85 (filF (N 85) 0 53)) P) : ∀ i : Int, 0 ≤ i → i ≤ 53 → Wp (D + 0) 108 (2, [some (.inr (.inr 80)), some (.inl i)], [], setC N 85 (filF (N 85) 0 i)) P := by
  refine loopZ 53 ?_
  intro i h0 h1 ih
  refine w_iload_n ta_108 rfl rfl ?_
  refine w_bipush ta_108 rfl ?_
  refine w_icmp_ge ta_108 rfl ⟨by omega, by omega⟩ ⟨by omega, by omega⟩ (fun h5 => ?_) (fun h5 => ?_)
  · obtain rfl : i = 53 := by omega
    exact hP
  · refine w_aload_n ta_108 rfl rfl ?_
    refine w_getR ta_108 rfl rfl ?_
    refine w_iload_n ta_108 rfl rfl ?_
    refine w_iconst ta_108 rfl ?_
    refine w_iastore ta_108 rfl rfl (by omega) (by omega) (by omega) ?_
    refine w_iinc_1_2 ta_108 rfl rfl ?_
    refine w_goto ta_108 rfl ?_
    rw [wr_sc, filF_s _ _ h0]
    exact ih (by omega)
set_option maxHeartbeats 4000000 in
set_option maxRecDepth 20000 in
theorem lp_fd2 (D : Nat) (N : Mem) : ∀ i : Int, 0 ≤ i → i ≤ 5 → Wp (D + 0) 108 (45, [some (.inr (.inr 80)), some (.inl i)], [], setC N 87 (filF (N 87) 0 i)) (fun r M' => r = none ∧ M' = setC N 87 (filF (N 87) 0 5)) := by
  refine loopZ 5 ?_
  intro i h0 h1 ih
  refine w_iload_n ta_108 rfl rfl ?_
  refine w_iconst ta_108 rfl ?_
  refine w_icmp_ge ta_108 rfl ⟨by omega, by omega⟩ ⟨by omega, by omega⟩ (fun h47 => ?_) (fun h47 => ?_)
  · refine w_vret ta_108 rfl ?_
    exact ⟨rfl, by rw [show i = 5 by omega]⟩
  · refine w_aload_n ta_108 rfl rfl ?_
    refine w_getR ta_108 rfl rfl ?_
    refine w_iload_n ta_108 rfl rfl ?_
    refine w_iconst ta_108 rfl ?_
    refine w_bastore ta_108 rfl rfl (by omega) (by omega) (by omega) (by omega) ?_
    refine w_iinc_1_2 ta_108 rfl rfl ?_
    refine w_goto ta_108 rfl ?_
    rw [wr_sc, filF_s _ _ h0]
    exact ih (by omega)
set_option maxHeartbeats 4000000 in
set_option maxRecDepth 20000 in
theorem cm_firstDraft (D : Nat) (N : Mem) : CV (D + 0) 108 [.inr (.inr 80)] N (fun M' => (∀ c, c ≠ 85 → c ≠ 87 → M' c = N c) ∧ (∀ z, 0 ≤ z → z < 53 → M' 85 z = if z = 1 then 2 else if z = 3 then 10 else if z = 4 then 5 else 0) ∧ ∀ j, 0 ≤ j → j < 5 → M' 87 j = 0) := by
  refine mk_C mt_108 rfl (Nat.le_of_ble_eq_true rfl) (L := [some _, none]) rfl ?_
  refine w_iconst ta_108 rfl ?_
  refine w_istn_1_2 ta_108 rfl rfl ?_
  have id0 : setC N 85 (filF (N 85) 0 0) = N := by rw [filF_0, sc_id]
  have go := fun h => lp_fd1 D N (fun r M' => r = none ∧ (∀ c, c ≠ 85 → c ≠ 87 → M' c = N c) ∧ (∀ z, 0 ≤ z → z < 53 → M' 85 z = if z = 1 then 2 else if z = 3 then 10 else if z = 4 then 5 else 0) ∧ ∀ j, 0 ≤ j → j < 5 → M' 87 j = 0) h 0 (by omega) (by omega)
  rw [id0] at go
  refine go ?_
  refine w_aload_n ta_108 rfl rfl ?_
  refine w_getR ta_108 rfl rfl ?_
  refine w_iconst ta_108 rfl ?_
  refine w_iconst ta_108 rfl ?_
  refine w_iastore ta_108 rfl rfl (by decide) (by decide) (by omega) ?_
  refine w_aload_n ta_108 rfl rfl ?_
  refine w_getR ta_108 rfl rfl ?_
  refine w_iconst ta_108 rfl ?_
  refine w_bipush ta_108 rfl ?_
  refine w_iastore ta_108 rfl rfl (by decide) (by decide) (by omega) ?_
  refine w_aload_n ta_108 rfl rfl ?_
  refine w_getR ta_108 rfl rfl ?_
  refine w_iconst ta_108 rfl ?_
  refine w_iconst ta_108 rfl ?_
  refine w_iastore ta_108 rfl rfl (by decide) (by decide) (by omega) ?_
  refine w_iconst ta_108 rfl ?_
  refine w_istn_1_2 ta_108 rfl rfl ?_
  generalize hY : wr (wr (wr (setC N 85 (filF (N 85) 0 53)) 85 1 2) 85 3 10) 85 4 5 = Y
  have q := lp_fd2 D Y 0 (by omega) (by omega)
  rw [filF_0, sc_id] at q
  refine q.imp ?_
  rintro r M' ⟨hr, rfl⟩
  refine ⟨hr, fun c h1 h2 => ?_, fun z z0 z1 => ?_, fun j j0 j1 => ?_⟩
  · rw [sc_n _ _ h2, ← hY, wr_n _ _ _ h1, wr_n _ _ _ h1, wr_n _ _ _ h1, sc_n _ _ h1]
  · rw [sc_n _ _ (by decide), ← hY, wr_s, wr_s, wr_s, sc_s]
    unfold upI filF
    by_cases e4 : z = 4
    · rw [if_pos e4, if_neg (by omega), if_neg (by omega), if_pos e4]
    · rw [if_neg e4]
      by_cases e3 : z = 3
      · rw [if_pos e3, if_neg (by omega), if_pos e3]
      · rw [if_neg e3]
        by_cases e1 : z = 1
        · rw [if_pos e1, if_pos e1]
        · rw [if_neg e1, if_pos ⟨z0, z1⟩, if_neg e1, if_neg e3, if_neg e4]
  · rw [sc_s]; exact if_pos ⟨j0, j1⟩
/-- all lines have been read -/
def AlM (N M' : Mem) (S : Rs) : Prop := FrM N M' ∧ ((S.1 = -1 ∧ M' 80 12 = 0 ∧ DfM M' S.2.2.2.1 S.2.2.2.2.1) ∨ (1 ≤ S.1 ∧ S.1 ≤ 5 ∧ FlM M' S.1 S.2.1))
set_option maxHeartbeats 4000000 in
set_option maxRecDepth 20000 in
theorem lp_txf (D : Nat) (X : Mem) (f0 : 1 ≤ X 80 12) (f1 : X 80 12 ≤ 5) (P : Option AV → Mem → Prop) (hP : Wp (D + 5) 121 (39, [some (.inr (.inr 80)), none], [], X) P) : Wp (D + 5) 121 (18, [some (.inr (.inr 80)), none], [], X) P := by
  skip
  refine w_aload_n ta_121 rfl rfl ?_
  refine w_getI 12 ta_121 rfl rfl rfl ?_
  refine w_if_ne ta_121 rfl ⟨by omega, by omega⟩ (fun h22 => ?_) (fun h22 => ?_)
  · exact hP
  · exfalso; omega
set_option maxHeartbeats 4000000 in
set_option maxRecDepth 20000 in
theorem lp_tx (D : Nat) (P : Option AV → Mem → Prop) : ∀ (d : Nat) (X : Mem) (p : Int) (dr ch md : Int → Int), TpM X → LK X p → DfM X dr ch → TdM X md → X 80 7 - p < d → (∀ M', AlM X M' (spT (X 86) (X 80 7) d p dr ch md) → Wp (D + 5) 121 (39, [some (.inr (.inr 80)), none], [], M') P) → Wp (D + 5) 121 (18, [some (.inr (.inr 80)), none], [], X) P := by
  intro d
  induction d with
  | zero =>
    intro X p dr ch md hT hL hD hTd hd hP
    have := hL.1.2
    exfalso
    omega
  | succ d ih =>
    intro X p dr ch md hT hL hD hTd hd hP
    obtain ⟨⟨p0, p1⟩, -⟩ := id hL
    have lb := hL.b
    have kb := tK_b (X 86) (X 80 7) p
    have sb := srt_b kb.1 kb.2
    refine w_aload_n ta_121 rfl rfl ?_
    refine w_getI 12 ta_121 rfl rfl rfl ?_
    refine w_if_ne ta_121 rfl ⟨by omega, by omega⟩ (fun h22 => ?_) (fun h22 => ?_)
    · first
        | (have hn0 : X 80 12 ≠ 0 := by omega
           obtain ⟨k4, f1, f2⟩ := hL.f hn0
           refine hP X ?_
           have eS : spL (X 86) (X 80 7) p dr ch md = (1, tS (X 86) (X 80 7) p, p, dr, ch, md) := by unfold spL; rw [if_pos k4]
           rw [spT, eS, if_neg (by simp)]
           exact ⟨FrM.rf _, Or.inr ⟨by simp, by simp, f1, f2⟩⟩)
        | (refine hP X ?_
           have eS : spL (X 86) (X 80 7) p dr ch md = (-1, 0, p, dr, ch, md) := by unfold spL; rw [if_neg hM.1, if_pos (by omega)]
           rw [spT, eS, if_neg (by simp)]
           exact ⟨FrM.rf _, Or.inl ⟨rfl, hM.2.1, hD⟩⟩)
    · have hM := hL.t h22
      refine w_aload_n ta_121 rfl rfl ?_
      refine w_getIv 10 (v := srt (tK (X 86) (X 80 7) p)) ta_121 rfl rfl rfl hM.2.2.2.1 ?_
      refine w_if_eq ta_121 rfl ⟨by omega, by omega⟩ (fun h29 => ?_) (fun h29 => ?_)
      · first
          | (have hn0 : X 80 12 ≠ 0 := by omega
             obtain ⟨k4, f1, f2⟩ := hL.f hn0
             refine hP X ?_
             have eS : spL (X 86) (X 80 7) p dr ch md = (1, tS (X 86) (X 80 7) p, p, dr, ch, md) := by unfold spL; rw [if_pos k4]
             rw [spT, eS, if_neg (by simp)]
             exact ⟨FrM.rf _, Or.inr ⟨by simp, by simp, f1, f2⟩⟩)
          | (refine hP X ?_
             have eS : spL (X 86) (X 80 7) p dr ch md = (-1, 0, p, dr, ch, md) := by unfold spL; rw [if_neg hM.1, if_pos (by omega)]
             rw [spT, eS, if_neg (by simp)]
             exact ⟨FrM.rf _, Or.inl ⟨rfl, hM.2.1, hD⟩⟩)
      · refine w_aload_n ta_121 rfl rfl ?_
        refine w_cV [_] _ ta_121 rfl rfl rfl mt_120 rfl rfl rfl rfl (Nat.le_of_ble_eq_true rfl) (fun _ => rfl) rfl (cm_readLine _ X hT p p0 p1 hM dr ch hD md hTd (by omega)) ?_
        rintro Z hZ
        refine w_goto ta_121 rfl ?_
        obtain ⟨fr, hZ⟩ := hZ
        have e7 : Z 80 7 = X 80 7 := fr.2 7 (by omega)
        have e86 : Z 86 = X 86 := fr.1 86 (by decide) (by decide) (by decide)
        rcases hZ with ⟨e, hD2, hTd2, hL2⟩ | ⟨s1, s5, fl⟩
        · have adv := spL_adv e
          refine ih Z _ _ _ _ (hT.of e7 e86) hL2 hD2 hTd2 (by rw [e7]; omega) (fun M' hA => hP M' ?_)
          rw [e7, e86] at hA
          rw [spT, if_pos e]
          exact ⟨fr.tr hA.1, hA.2⟩
        · have hA : AlM X Z (spT (X 86) (X 80 7) (d + 1) p dr ch md) := by
            rw [spT, if_neg (by omega)]
            exact ⟨fr, Or.inr ⟨s1, s5, fl⟩⟩
          exact lp_txf D Z (by rw [fl.1]; omega) (by rw [fl.1]; omega) P (hP Z hA)
set_option maxHeartbeats 4000000 in
set_option maxRecDepth 20000 in
theorem lp_txc (D : Nat) (N : Mem) (P : Option AV → Mem → Prop) (hP : Wp (D + 5) 121 (85, [some (.inr (.inr 80)), some (.inl 53)], [], setC N 81 (cpF (N 81) (N 85) 53)) P) : ∀ i : Int, 0 ≤ i → i ≤ 53 → Wp (D + 5) 121 (61, [some (.inr (.inr 80)), some (.inl i)], [], setC N 81 (cpF (N 81) (N 85) i)) P := by
  refine loopZ 53 ?_
  intro i h0 h1 ih
  refine w_iload_n ta_121 rfl rfl ?_
  refine w_bipush ta_121 rfl ?_
  refine w_icmp_ge ta_121 rfl ⟨by omega, by omega⟩ ⟨by omega, by omega⟩ (fun h64 => ?_) (fun h64 => ?_)
  · obtain rfl : i = 53 := by omega
    exact hP
  · refine w_aload_n ta_121 rfl rfl ?_
    refine w_getR ta_121 rfl rfl ?_
    refine w_iload_n ta_121 rfl rfl ?_
    refine w_aload_n ta_121 rfl rfl ?_
    refine w_getR ta_121 rfl rfl ?_
    refine w_iload_n ta_121 rfl rfl ?_
    refine w_ialoadv (v := N 85 i) ta_121 rfl rfl (by omega) (by omega) (by omega) (by rw [sc_n _ _ (by decide)]) ?_
    refine w_iastore ta_121 rfl rfl (by omega) (by omega) (by omega) ?_
    refine w_iinc_1_2 ta_121 rfl rfl ?_
    refine w_goto ta_121 rfl ?_
    rw [wr_sc, cpF_s _ _ h0]
    exact ih (by omega)
set_option maxHeartbeats 4000000 in
set_option maxRecDepth 20000 in
theorem lp_txh (D : Nat) (N : Mem) (n0 : 0 ≤ N 81 0) (n1 : N 81 0 ≤ 16) (P : Option AV → Mem → Prop) (hP : ∀ x : Int, Wp (D + 5) 121 (120, [some (.inr (.inr 80)), some (.inl x)], [], setC N 81 (fiF (N 81) (N 81 0))) P) : ∀ i : Int, 0 ≤ i → i ≤ N 81 0 → Wp (D + 5) 121 (87, [some (.inr (.inr 80)), some (.inl i)], [], setC N 81 (fiF (N 81) i)) P := by
  refine loopZ _ ?_
  intro i h0 h1 ih
  refine w_iload_n ta_121 rfl rfl ?_
  refine w_aload_n ta_121 rfl rfl ?_
  refine w_getR ta_121 rfl rfl ?_
  refine w_iconst ta_121 rfl ?_
  refine w_ialoadv (v := N 81 0) ta_121 rfl rfl (by decide) (by decide) (by omega) (by rw [sc_s]; exact if_neg (by omega)) ?_
  refine w_icmp_ge ta_121 rfl ⟨by omega, by omega⟩ ⟨by omega, by omega⟩ (fun h94 => ?_) (fun h94 => ?_)
  · obtain rfl : i = N 81 0 := by omega
    exact hP _
  · refine w_aload_n ta_121 rfl rfl ?_
    refine w_getR ta_121 rfl rfl ?_
    refine w_bipush ta_121 rfl ?_
    refine w_iload_n ta_121 rfl rfl ?_
    refine w_iadd ta_121 rfl ?_
    refine w_aload_n ta_121 rfl rfl ?_
    refine w_getR ta_121 rfl rfl ?_
    refine w_iconst ta_121 rfl ?_
    refine w_iload_n ta_121 rfl rfl ?_
    refine w_iadd ta_121 rfl ?_
    refine w_ialoadv (v := fiF (N 81) i (5 + i)) ta_121 rfl rfl (by omega) (by omega) (by omega) (by rw [sc_s]) ?_
    refine w_iastore ta_121 rfl rfl (by omega) (by omega) (by omega) ?_
    refine w_iinc_1_2 ta_121 rfl rfl ?_
    refine w_goto ta_121 rfl ?_
    rw [wr_sc, fiF_s _ h0 (by omega)]
    exact ih (by omega)
/-- what the reference keeps of a text -/
def TxM (M M' : Mem) (v : Int) (S : Rs) : Prop := (∀ c, c < 80 ∨ c = 82 ∨ c = 84 ∨ c = 86 ∨ 95 ≤ c → M' c = M c) ∧ M' 80 7 = 0 ∧ M' 80 25 = M 80 25 ∧ ((1 ≤ S.1 ∧ S.1 ≤ 5 ∧ v = -10 - S.2.1 ∧ M' 80 12 = S.1 ∧ M' 81 = M 81 ∧ M' 83 = M 83) ∨ (S.1 = -1 ∧ v = S.2.2.2.1 0 ∧ M' 80 12 = 0 ∧ M' 83 0 = 0 ∧ M' 83 1 = 0 ∧ DrI S.2.2.2.1 S.2.2.2.2.1 ∧ (∀ j, 0 ≤ j → j < 5 → M' 81 j = S.2.2.2.1 j) ∧ ∀ i, 0 ≤ i → i < S.2.2.2.1 0 → M' 81 (5 + i) = S.2.2.2.2.1 i ∧ M' 81 (21 + i) = S.2.2.2.2.1 i ∧ M' 81 (37 + i) = i % S.2.2.2.1 1))
set_option maxHeartbeats 4000000 in
set_option maxRecDepth 20000 in
theorem lp_tx39 (D : Nat) (N X : Mem) (S : Rs) (hA : AlM N X S) : Wp (D + 5) 121 (39, [some (.inr (.inr 80)), none], [], X) (fun r M' => ∃ v, r = some (.inl v) ∧ TxM N M' v S) := by
  obtain ⟨fr, hA⟩ := hA
  have f12 : 0 ≤ X 80 12 ∧ X 80 12 ≤ 5 := hA.elim (fun q => by have := q.2.1; omega) (fun q => by have := q.1; have := q.2.1; have := q.2.2.1; omega)
  refine w_aload_n ta_121 rfl rfl ?_
  refine w_iconst ta_121 rfl ?_
  refine w_putI 7 ta_121 rfl rfl rfl ?_
  refine w_aload_n ta_121 rfl rfl ?_
  refine w_getIv 12 (v := X 80 12) ta_121 rfl rfl rfl (by rw [wr_s, up_n _ _ (by decide)]) ?_
  refine w_if_le ta_121 rfl ⟨by omega, by omega⟩ (fun h48 => ?_) (fun h48 => ?_)
  · obtain ⟨S1, s12, hD⟩ := hA.resolve_right (fun q => by have := q.1; have := q.2.2.1; omega)
    refine w_iconst ta_121 rfl ?_
    refine w_istn_1_2 ta_121 rfl rfl ?_
    have y85 : wr X 80 7 0 85 = X 85 := wr_n _ _ _ (by decide)
    generalize hY : wr X 80 7 0 = Y at *
    have id0 : setC Y 81 (cpF (Y 81) (Y 85) 0) = Y := by rw [cpF_0, sc_id]
    have go := fun h => lp_txc D Y (fun r M' => ∃ v, r = some (.inl v) ∧ TxM N M' v S) h 0 (by omega) (by omega)
    rw [id0] at go
    refine go ?_
    clear go id0
    obtain ⟨d1, d2, hDI⟩ := id hD
    have n0 := hDI.1
    have n1 := hDI.2.1
    have k0 := hDI.2.2.1
    have k1 := hDI.2.2.2.1
    generalize hU : setC Y 81 (cpF (Y 81) (Y 85) 53) = U
    have u81 : ∀ z, 0 ≤ z → z < 53 → U 81 z = X 85 z := fun z z0 z1 => by rw [← hU, sc_s, cpF_at z0 z1, y85]
    have uc : ∀ c, c ≠ 81 → U c = Y c := fun c hc => by rw [← hU, sc_n _ _ hc]
    have u0 : U 81 0 = S.2.2.2.1 0 := (u81 0 (by omega) (by omega)).trans (d1 0 (by omega) (by omega))
    refine w_iconst ta_121 rfl ?_
    refine w_istn_1_2 ta_121 rfl rfl ?_
    have id1 : setC U 81 (fiF (U 81) 0) = U := by rw [fiF_0, sc_id]
    have go2 := fun h => lp_txh D U (by omega) (by omega) (fun r M' => ∃ v, r = some (.inl v) ∧ TxM N M' v S) h 0 (by omega) (by omega)
    rw [id1] at go2
    refine go2 (fun x => ?_)
    clear go2 id1
    generalize hV : setC U 81 (fiF (U 81) (U 81 0)) = V
    have v81 : ∀ z, V 81 z = fiF (U 81) (S.2.2.2.1 0) z := fun z => by rw [← hV, sc_s, u0]
    have hI : ∀ j, 0 ≤ j → j < 5 → V 81 j = S.2.2.2.1 j := fun j j0 j1 => by rw [v81, show fiF (U 81) (S.2.2.2.1 0) j = U 81 j from if_neg (by omega), u81 j (by omega) (by omega)]; exact d1 j j0 j1
    have hC : ∀ i, 0 ≤ i → i < S.2.2.2.1 0 → V 81 (5 + i) = S.2.2.2.2.1 i ∧ V 81 (21 + i) = S.2.2.2.2.1 i := fun i i0 i1 => ⟨by rw [v81, show fiF (U 81) (S.2.2.2.1 0) (5 + i) = U 81 (5 + i) from if_neg (by omega), u81 _ (by omega) (by omega)]; exact d2 i i0 i1, by rw [v81, show fiF (U 81) (S.2.2.2.1 0) (21 + i) = U 81 (21 + i - 16) from if_pos ⟨by omega, by omega⟩, show 21 + i - 16 = 5 + i by omega, u81 _ (by omega) (by omega)]; exact d2 i i0 i1⟩
    have hi0 : V 81 0 = S.2.2.2.1 0 := hI 0 (by omega) (by omega)
    have hi1 : V 81 1 = S.2.2.2.1 1 := hI 1 (by omega) (by omega)
    have vc : ∀ c, c ≠ 81 → V c = Y c := fun c hc => by rw [← hV, sc_n _ _ hc]; exact uc c hc
    have g1 : ∀ c, c < 80 ∨ c = 82 ∨ c = 84 ∨ c = 86 ∨ 95 ≤ c → V c = X c := fun c hc => by rw [vc c (by omega), ← hY, wr_n _ _ _ (by omega)]
    have g2 : V 80 7 = 0 := by rw [vc 80 (by decide), ← hY, wr_s, up_s]
    have g3 : ∀ j, j ≠ 7 → V 80 j = X 80 j := fun j hj => by rw [vc 80 (by decide), ← hY, wr_s, up_n _ _ hj]
    refine w_aload_n ta_121 rfl rfl ?_
    refine w_cV [_] _ ta_121 rfl rfl rfl mt_155 rfl rfl rfl rfl (Nat.le_of_ble_eq_true rfl) (fun _ => rfl) rfl (cm_byTurns2 _ _ (by omega) (by omega) (by omega) (by omega)) ?_
    rintro Z1 ⟨t1, t2, t3⟩
    rw [hi0, hi1] at t3
    refine w_aload_n ta_121 rfl rfl ?_
    refine w_getR ta_121 rfl rfl ?_
    refine w_iconst ta_121 rfl ?_
    refine w_iconst ta_121 rfl ?_
    refine w_bastore ta_121 rfl rfl (by decide) (by decide) (by omega) (by omega) ?_
    refine w_aload_n ta_121 rfl rfl ?_
    refine w_getR ta_121 rfl rfl ?_
    refine w_iconst ta_121 rfl ?_
    refine w_iconst ta_121 rfl ?_
    refine w_bastore ta_121 rfl rfl (by decide) (by decide) (by omega) (by omega) ?_
    refine w_aload_n ta_121 rfl rfl ?_
    refine w_getR ta_121 rfl rfl ?_
    refine w_iconst ta_121 rfl ?_
    refine w_ialoadv (v := S.2.2.2.1 0) ta_121 rfl rfl (by decide) (by decide) (by omega) (by rw [wr_n _ _ _ (by decide), wr_n _ _ _ (by decide), t2 0 (by decide)]; exact hi0) ?_
    refine w_iret ta_121 rfl (Or.inl rfl) ?_
    have zz : ∀ c, c ≠ 83 → wr (wr Z1 83 0 0) 83 1 0 c = Z1 c := fun c hc => by rw [wr_n _ _ _ hc, wr_n _ _ _ hc]
    refine ⟨_, rfl, fun c hc => ?_, ?_, ?_, Or.inr ⟨S1, rfl, ?_, by rw [wr_s, up_n _ _ (by decide), wr_s, up_s], by rw [wr_s, up_s], hDI, fun j j0 j1 => ?_, fun i i0 i1 => ⟨?_, ?_, ?_⟩⟩⟩
    · rw [zz c (by omega), t1 c (by omega) (by omega), g1 c (by omega)]
      exact fr.1 c (by omega) (by omega) (by omega)
    · rw [zz 80 (by decide), t1 80 (by decide) (by decide)]; exact g2
    · rw [zz 80 (by decide), t1 80 (by decide) (by decide), g3 25 (by decide)]; exact fr.2 25 (by decide)
    · rw [zz 80 (by decide), t1 80 (by decide) (by decide), g3 12 (by decide)]; exact s12
    · rw [zz 81 (by decide), t2 j (by omega)]; exact hI j j0 j1
    · rw [zz 81 (by decide), t2 (5 + i) (by omega)]; exact (hC i i0 i1).1
    · rw [zz 81 (by decide), t2 (21 + i) (by omega)]; exact (hC i i0 i1).2
    · rw [zz 81 (by decide)]; exact t3 i i0 i1
  · refine w_bipush ta_121 rfl ?_
    refine w_aload_n ta_121 rfl rfl ?_
    refine w_getIv 13 (v := X 80 13) ta_121 rfl rfl rfl (by rw [wr_s, up_n _ _ (by decide)]) ?_
    refine w_isub ta_121 rfl ?_
    refine w_iret ta_121 rfl (Or.inl rfl) ?_
    obtain ⟨S1, S5, f12, f13⟩ := hA.resolve_left (fun q => by have := q.2.1; omega)
    refine ⟨_, rfl, fun c hc => ?_, by rw [wr_s, up_s], ?_, Or.inl ⟨S1, S5, by rw [f13], ?_, ?_, ?_⟩⟩
    · rw [wr_n _ _ _ (by omega)]; exact fr.1 c (by omega) (by omega) (by omega)
    · rw [wr_s, up_n _ _ (by decide)]; exact fr.2 25 (by decide)
    · rw [wr_s, up_n _ _ (by decide)]; exact f12
    · rw [wr_n _ _ _ (by decide)]; exact fr.1 81 (by decide) (by decide) (by decide)
    · rw [wr_n _ _ _ (by decide)]; exact fr.1 83 (by decide) (by decide) (by decide)
set_option maxHeartbeats 4000000 in
set_option maxRecDepth 20000 in
theorem cm_text (D : Nat) (N : Mem) (hT : TpM N) : CI (D + 5) 121 [.inr (.inr 80)] N (fun v M' => TxM N M' v (txZ (N 86) (N 80 7))) := by
  refine mk_C mt_121 rfl (Nat.le_of_ble_eq_true rfl) (L := [some _, none]) rfl ?_
  refine w_aload_n ta_121 rfl rfl ?_
  refine w_iconst ta_121 rfl ?_
  refine w_putI 12 ta_121 rfl rfl rfl ?_
  refine w_aload_n ta_121 rfl rfl ?_
  refine w_iconst ta_121 rfl ?_
  refine w_putI 8 ta_121 rfl rfl rfl ?_
  refine w_aload_n ta_121 rfl rfl ?_
  refine w_cV [_] _ ta_121 rfl rfl rfl mt_108 rfl rfl rfl rfl (Nat.le_of_ble_eq_true rfl) (fun _ => rfl) rfl (cm_firstDraft _ _) ?_
  rintro Z ⟨z1, z2, z3⟩
  have zc : ∀ c, c ≠ 80 → c ≠ 85 → c ≠ 87 → Z c = N c := fun c h1 h2 h3 => by rw [z1 c h2 h3, wr_n _ _ _ h1, wr_n _ _ _ h1]
  have z80 : ∀ j, j ≠ 8 → j ≠ 12 → Z 80 j = N 80 j := fun j h1 h2 => by rw [z1 80 (by decide) (by decide), wr_s, up_n _ _ h1, wr_s, up_n _ _ h2]
  have z8 : Z 80 8 = 0 := by rw [z1 80 (by decide) (by decide), wr_s, up_s]
  have z12 : Z 80 12 = 0 := by rw [z1 80 (by decide) (by decide), wr_s, up_n _ _ (by decide), wr_s, up_s]
  have e7 : Z 80 7 = N 80 7 := z80 7 (by decide) (by decide)
  have e86 : Z 86 = N 86 := zc 86 (by decide) (by decide) (by decide)
  have hTZ : TpM Z := hT.of e7 e86
  have l0 := hT.1
  refine w_aload_n ta_121 rfl rfl ?_
  refine w_cV [_] _ ta_121 rfl rfl rfl mt_115 rfl rfl rfl rfl (Nat.le_of_ble_eq_true rfl) (fun _ => rfl) rfl (cm_reads0 _ Z hTZ 0 z8 (by omega) (by omega) z12) ?_
  rintro X hN
  have fr := hN.fr
  have hL := hN.lk (by omega) (by omega)
  have x7 : X 80 7 = N 80 7 := (fr.2 7 (by omega)).trans e7
  have x86 : X 86 = N 86 := (fr.1 86 (by decide)).trans e86
  have frN : FrM N X := ⟨fun c h1 h2 h3 => (fr.1 c h1).trans (zc c h1 h2 h3), fun j hj => (fr.2 j hj).trans (z80 j (by omega) (by omega))⟩
  have hD : DfM X dr0 ch0 := ⟨fun j j0 j1 => by rw [fr.1 85 (by decide), z2 j (by omega) (by omega)]; rfl, fun i i0 i1 => absurd i1 (by show ¬ i < 0; omega), dr0_I⟩
  have hTd : TdM X ch0 := ⟨fun j j0 j1 => by rw [fr.1 87 (by decide), z3 j j0 j1]; rfl, fun j => Or.inl rfl, rfl⟩
  refine lp_tx D _ (N 80 7 + 1).toNat X 0 dr0 ch0 ch0 (hT.of x7 x86) hL hD hTd (by omega) (fun M' hA => ?_)
  rw [x7, x86] at hA
  exact lp_tx39 D N M' _ ⟨frN.tr hA.1, hA.2⟩
