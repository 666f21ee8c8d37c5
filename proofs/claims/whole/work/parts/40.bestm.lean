/-! way 3, the reference -/
def hiZ (r : Int → Int) (j : Int) : Int := if opZ r j < 1 then 0 else opZ r j - 1
theorem hiZ_s (r : Int → Int) {j : Int} (h : 0 ≤ j) (hr : 0 ≤ r j) : hiZ r (j + 1) = if hiZ r j < r j then r j else hiZ r j := by
  have b := opZ_b r j
  unfold hiZ
  rw [opZ_s _ h]
  by_cases e : opZ r j < r j + 1
  · rw [if_pos e]
    split <;> split <;> split <;> omega
  · rw [if_neg e]
    split <;> split <;> omega
theorem hiZ_b {r : Int → Int} {j k : Int} (hr : ∀ i, 0 ≤ i → i < j → 0 ≤ r i ∧ r i < k) (hk : 1 ≤ k) : 0 ≤ hiZ r j ∧ hiZ r j < k := by
  have a := opZ_b r j
  have b := opZ_le hr (show 0 ≤ k by omega)
  unfold hiZ
  split <;> omega
theorem opZ_1 {r : Int → Int} {j : Int} (h : 1 ≤ j) (hr : ∀ i, 0 ≤ i → i < j → 0 ≤ r i) : 1 ≤ opZ r j := by
  have e := opZ_s r (i := j - 1) (by omega)
  rw [show j - 1 + 1 = j by omega] at e
  have := hr (j - 1) (by omega) (by omega)
  rw [e]
  split <;> omega
theorem hi_c {r : Int → Int} {j k : Int} (h : 1 ≤ j) (hr : ∀ i, 0 ≤ i → i < j → 0 ≤ r i) : (r j ≤ hiZ r j ∧ r j < k - 1) ↔ r j + 1 < cZ r k j := by
  have a := opZ_1 h hr
  unfold hiZ cZ
  rw [if_neg (by omega)]
  split <;> omega
theorem nxR_0 (r : Int → Int) (i : Int) : upI r i (r i + 1) = nxR (i + 1) r i := by
  funext x
  unfold upI nxR
  by_cases a : x < i
  · rw [if_pos a, if_neg (by omega)]
  · rw [if_neg a]
    by_cases b : x = i
    · rw [if_pos b, if_pos b]
    · rw [if_neg b, if_neg b, if_neg (by omega)]
theorem nxR_s (r : Int → Int) {i j : Int} (h : i < j) : upI (nxR j r i) j 0 = nxR (j + 1) r i := by
  funext x
  unfold upI nxR
  by_cases a : x < i
  · rw [if_pos a, if_neg (by omega), if_pos a]
  · rw [if_neg a, if_neg a]
    by_cases b : x = i
    · rw [if_pos b, if_pos b, if_neg (by omega)]
    · rw [if_neg b, if_neg b]
      by_cases c : x = j
      · rw [if_pos c, if_pos (by omega)]
      · rw [if_neg c]
        by_cases d : x < j
        · rw [if_pos d, if_pos (by omega)]
        · rw [if_neg d, if_neg (by omega)]
set_option maxHeartbeats 4000000 in
set_option maxRecDepth 20000 in
theorem lm_steps2 (D : Nat) (M : Mem) (hI : MdI M) (hh : ∀ i, 0 ≤ i → i < M 81 0 → 0 ≤ M 89 i ∧ M 89 i < M 81 1) (i : Int) (i0 : 1 ≤ i) (i1 : i < M 81 0) (P : Option AV → Mem → Prop) (hP : Wp D 151 (49, [some (.inr (.inr 80)), some (.inl i), some (.inl (hiZ (M 89) i)), some (.inl i)], [], M) P) : ∀ j : Int, 0 ≤ j → j ≤ i → Wp D 151 (17, [some (.inr (.inr 80)), some (.inl i), some (.inl (hiZ (M 89) j)), some (.inl j)], [], M) P := by
  obtain ⟨n0, n1, k0, k1, f0, f1, r0, r1, s0, s1, hA⟩ := id hI
  refine loopZ i ?_
  intro j h0 h1 ih
  refine w_iload_n ta_151 rfl rfl ?_
  refine w_iload_n ta_151 rfl rfl ?_
  refine w_icmp_ge ta_151 rfl ⟨by omega, by omega⟩ ⟨by omega, by omega⟩ (fun h19 => ?_) (fun h19 => ?_)
  · have e : j = i := by omega
    subst e
    exact hP
  · have hj := hh j h0 (by omega)
    have hb := hiZ_b (r := M 89) (j := j) (k := M 81 1) (fun x x0 x1 => hh x x0 (by omega)) (by omega)
    have ih := ih h19
    rw [hiZ_s _ h0 hj.1] at ih
    refine w_aload_n ta_151 rfl rfl ?_
    refine w_getR ta_151 rfl rfl ?_
    refine w_iload_n ta_151 rfl rfl ?_
    refine w_iaload ta_151 rfl rfl (by omega) (by omega) (by omega) ?_
    refine w_iload_n ta_151 rfl rfl ?_
    refine w_icmp_le ta_151 rfl ⟨by omega, by omega⟩ ⟨by omega, by omega⟩ (fun h29 => ?_) (fun h29 => ?_)
    · refine w_iload_n ta_151 rfl rfl ?_
      refine w_istn_2_4 ta_151 rfl rfl ?_
      refine w_iinc_3_4 ta_151 rfl rfl ?_
      refine w_goto ta_151 rfl ?_
      first
        | (rw [if_pos (by omega)] at ih; exact ih)
        | (rw [if_neg (by omega)] at ih; exact ih)
    · refine w_aload_n ta_151 rfl rfl ?_
      refine w_getR ta_151 rfl rfl ?_
      refine w_iload_n ta_151 rfl rfl ?_
      refine w_iaload ta_151 rfl rfl (by omega) (by omega) (by omega) ?_
      refine w_goto ta_151 rfl ?_
      refine w_istn_2_4 ta_151 rfl rfl ?_
      refine w_iinc_3_4 ta_151 rfl rfl ?_
      refine w_goto ta_151 rfl ?_
      first
        | (rw [if_pos (by omega)] at ih; exact ih)
        | (rw [if_neg (by omega)] at ih; exact ih)
set_option maxHeartbeats 4000000 in
set_option maxRecDepth 20000 in
theorem lm_steps3 (D : Nat) (M : Mem) (hI : MdI M) (i : Int) (i0 : 1 ≤ i) (i1 : i < M 81 0) (hi : M 89 i + 1 < cZ (M 89) (M 81 1) i) (he : ∀ j, i < j → j < M 81 0 → cZ (M 89) (M 81 1) j ≤ M 89 j + 1) (q : Int) : ∀ j : Int, i + 1 ≤ j → j ≤ M 81 0 → Wp D 151 (90, [some (.inr (.inr 80)), some (.inl i), some (.inl q), some (.inl j)], [], setC M 89 (nxR j (M 89) i)) (fun r M' => (∃ v, r = some (.inl v) ∧ ((v = 0 ∧ M' = M ∧ ∀ j, 1 ≤ j → j < M 81 0 → cZ (M 89) (M 81 1) j ≤ M 89 j + 1) ∨ (v = 1 ∧ ∃ i, 1 ≤ i ∧ i < M 81 0 ∧ M 89 i + 1 < cZ (M 89) (M 81 1) i ∧ (∀ j, i < j → j < M 81 0 → cZ (M 89) (M 81 1) j ≤ M 89 j + 1) ∧ M' = setC M 89 (nxR (M 81 0) (M 89) i))))) := by
  obtain ⟨n0, n1, k0, k1, f0, f1, r0, r1, s0, s1, hA⟩ := id hI
  refine loopO (i + 1) (M 81 0) ?_
  intro j h0 h1 ih
  refine w_iload_n ta_151 rfl rfl ?_
  refine w_aload_n ta_151 rfl rfl ?_
  refine w_getR ta_151 rfl rfl ?_
  refine w_iconst ta_151 rfl ?_
  refine w_ialoadv (v := M 81 0) ta_151 rfl rfl (by decide) (by decide) (by omega) (by rw [sc_n _ _ (by decide)]) ?_
  refine w_icmp_ge ta_151 rfl ⟨by omega, by omega⟩ ⟨by omega, by omega⟩ (fun h97 => ?_) (fun h97 => ?_)
  · refine w_iconst ta_151 rfl ?_
    refine w_iret ta_151 rfl (Or.inr ⟨rfl, by omega⟩) ?_
    exact ⟨_, rfl, Or.inr ⟨rfl, i, i0, i1, hi, he, by rw [show j = M 81 0 by omega]⟩⟩
  · refine w_aload_n ta_151 rfl rfl ?_
    refine w_getR ta_151 rfl rfl ?_
    refine w_iload_n ta_151 rfl rfl ?_
    refine w_iconst ta_151 rfl ?_
    refine w_iastore ta_151 rfl rfl (by omega) (by omega) (by omega) ?_
    refine w_iinc_3_4 ta_151 rfl rfl ?_
    refine w_goto ta_151 rfl ?_
    rw [wr_sc, nxR_s _ (by omega)]
    exact ih h97
set_option maxHeartbeats 4000000 in
set_option maxRecDepth 20000 in
theorem lm_steps (D : Nat) (M : Mem) (hI : MdI M) (hh : ∀ i, 0 ≤ i → i < M 81 0 → 0 ≤ M 89 i ∧ M 89 i < M 81 1) : ∀ (e : Nat), (e : Int) < M 81 0 ∨ e = 0 → ∀ q2 q3, isLg q2 = false → (∀ j, (e : Int) < j → j < M 81 0 → cZ (M 89) (M 81 1) j ≤ M 89 j + 1) → Wp D 151 (9, [some (.inr (.inr 80)), some (.inl (e : Int)), q2, q3], [], M) (fun r M' => (∃ v, r = some (.inl v) ∧ ((v = 0 ∧ M' = M ∧ ∀ j, 1 ≤ j → j < M 81 0 → cZ (M 89) (M 81 1) j ≤ M 89 j + 1) ∨ (v = 1 ∧ ∃ i, 1 ≤ i ∧ i < M 81 0 ∧ M 89 i + 1 < cZ (M 89) (M 81 1) i ∧ (∀ j, i < j → j < M 81 0 → cZ (M 89) (M 81 1) j ≤ M 89 j + 1) ∧ M' = setC M 89 (nxR (M 81 0) (M 89) i))))) := by
  obtain ⟨n0, n1, k0, k1, f0, f1, r0, r1, s0, s1, hA⟩ := id hI
  intro e
  induction e with
  | zero =>
    intro hi1 q2 q3 hq he
    refine w_iload_n ta_151 rfl rfl ?_
    refine w_if_le ta_151 rfl ⟨by omega, by omega⟩ (fun h10 => ?_) (fun h10 => ?_)
    · refine w_iconst ta_151 rfl ?_
      refine w_iret ta_151 rfl (Or.inr ⟨rfl, by omega⟩) ?_
      exact ⟨_, rfl, Or.inl ⟨rfl, rfl, fun j j0 j1 => he j (by omega) j1⟩⟩
    · exfalso; omega
  | succ e ih =>
    intro hi1 q2 q3 hq he
    replace hi1 : ((e + 1 : Nat) : Int) < M 81 0 := by omega
    have ei : ((e + 1 : Nat) : Int) = (e : Int) + 1 := by omega
    generalize ((e + 1 : Nat) : Int) = i at *
    refine w_iload_n ta_151 rfl rfl ?_
    refine w_if_le ta_151 rfl ⟨by omega, by omega⟩ (fun h10 => ?_) (fun h10 => ?_)
    · exfalso; omega
    · refine w_iconst ta_151 rfl ?_
      refine w_istn_2_4 ta_151 rfl rfl ?_
      refine w_iconst ta_151 rfl ?_
      refine w_istn_3_4 ta_151 rfl rfl ?_
      refine lm_steps2 D M hI hh i (by omega) hi1 _ ?_ 0 (by omega) (by omega)
      have hi := hh i (by omega) hi1
      have hb := hiZ_b (r := M 89) (j := i) (k := M 81 1) (fun x x0 x1 => hh x x0 (by omega)) (by omega)
      have hc := hi_c (r := M 89) (j := i) (k := M 81 1) (by omega) (fun x x0 x1 => (hh x x0 (by omega)).1)
      refine w_aload_n ta_151 rfl rfl ?_
      refine w_getR ta_151 rfl rfl ?_
      refine w_iload_n ta_151 rfl rfl ?_
      refine w_iaload ta_151 rfl rfl (by omega) (by omega) (by omega) ?_
      refine w_iload_n ta_151 rfl rfl ?_
      refine w_icmp_gt ta_151 rfl ⟨by omega, by omega⟩ ⟨by omega, by omega⟩ (fun h56 => ?_) (fun h56 => ?_)
      · have hno : cZ (M 89) (M 81 1) i ≤ M 89 i + 1 := Int.not_lt.mp (fun q => by have := hc.mpr q; omega)
        refine w_iinc_1_4 ta_151 rfl rfl ?_
        refine w_goto ta_151 rfl ?_
        rw [show i + -1 = ((e : Nat) : Int) by omega]
        refine ih (by omega) _ _ rfl (fun j j0 j1 => ?_)
        by_cases z : j = i
        · rw [z]; exact hno
        · exact he j (by omega) j1
      · refine w_aload_n ta_151 rfl rfl ?_
        refine w_getR ta_151 rfl rfl ?_
        refine w_iload_n ta_151 rfl rfl ?_
        refine w_iaload ta_151 rfl rfl (by omega) (by omega) (by omega) ?_
        refine w_aload_n ta_151 rfl rfl ?_
        refine w_getR ta_151 rfl rfl ?_
        refine w_iconst ta_151 rfl ?_
        refine w_iaload ta_151 rfl rfl (by decide) (by decide) (by omega) ?_
        refine w_iconst ta_151 rfl ?_
        refine w_isub ta_151 rfl ?_
        refine w_icmp_ge ta_151 rfl ⟨by omega, by omega⟩ ⟨by omega, by omega⟩ (fun h73 => ?_) (fun h73 => ?_)
        · have hno : cZ (M 89) (M 81 1) i ≤ M 89 i + 1 := Int.not_lt.mp (fun q => by have := hc.mpr q; omega)
          refine w_iinc_1_4 ta_151 rfl rfl ?_
          refine w_goto ta_151 rfl ?_
          rw [show i + -1 = ((e : Nat) : Int) by omega]
          refine ih (by omega) _ _ rfl (fun j j0 j1 => ?_)
          by_cases z : j = i
          · rw [z]; exact hno
          · exact he j (by omega) j1
        · have hyes := hc.mp ⟨by omega, by omega⟩
          refine w_aload_n ta_151 rfl rfl ?_
          refine w_getR ta_151 rfl rfl ?_
          refine w_iload_n ta_151 rfl rfl ?_
          refine w_dup2 ta_151 rfl rfl rfl ?_
          refine w_iaload ta_151 rfl rfl (by omega) (by omega) (by omega) ?_
          refine w_iconst ta_151 rfl ?_
          refine w_iadd ta_151 rfl ?_
          refine w_iastore ta_151 rfl rfl (by omega) (by omega) (by omega) ?_
          refine w_iload_n ta_151 rfl rfl ?_
          refine w_iconst ta_151 rfl ?_
          refine w_iadd ta_151 rfl ?_
          refine w_istn_3_4 ta_151 rfl rfl ?_
          have q := lm_steps3 D M hI i (by omega) hi1 hyes he (hiZ (M 89) i) (i + 1) (by omega) (by omega)
          rw [← nxR_0] at q
          exact q
set_option maxHeartbeats 4000000 in
set_option maxRecDepth 20000 in
theorem cm_steps (D : Nat) (M : Mem) (hI : MdI M) (hh : ∀ i, 0 ≤ i → i < M 81 0 → 0 ≤ M 89 i ∧ M 89 i < M 81 1) : Cl D 151 [.inr (.inr 80)] M (fun r M' => (∃ v, r = some (.inl v) ∧ ((v = 0 ∧ M' = M ∧ ∀ j, 1 ≤ j → j < M 81 0 → cZ (M 89) (M 81 1) j ≤ M 89 j + 1) ∨ (v = 1 ∧ ∃ i, 1 ≤ i ∧ i < M 81 0 ∧ M 89 i + 1 < cZ (M 89) (M 81 1) i ∧ (∀ j, i < j → j < M 81 0 → cZ (M 89) (M 81 1) j ≤ M 89 j + 1) ∧ M' = setC M 89 (nxR (M 81 0) (M 89) i))))) := by
  refine mk_C mt_151 rfl (Nat.le_of_ble_eq_true rfl) (L := [some _, none, none, none]) rfl ?_
  obtain ⟨n0, n1, k0, k1, f0, f1, r0, r1, s0, s1, hA⟩ := id hI
  refine w_aload_n ta_151 rfl rfl ?_
  refine w_getR ta_151 rfl rfl ?_
  refine w_iconst ta_151 rfl ?_
  refine w_iaload ta_151 rfl rfl (by decide) (by decide) (by omega) ?_
  refine w_iconst ta_151 rfl ?_
  refine w_isub ta_151 rfl ?_
  refine w_istn_1_4 ta_151 rfl rfl ?_
  by_cases z : M 81 0 = 0
  · rw [z]
    refine w_iload_n ta_151 rfl rfl ?_
    refine w_if_le ta_151 rfl ⟨by omega, by omega⟩ (fun h10 => ?_) (fun h10 => ?_)
    · refine w_iconst ta_151 rfl ?_
      refine w_iret ta_151 rfl (Or.inr ⟨rfl, by omega⟩) ?_
      exact ⟨_, rfl, Or.inl ⟨rfl, rfl, fun j j0 j1 => by omega⟩⟩
    · exfalso; omega
  · have q := lm_steps D M hI hh (M 81 0 - 1).toNat (by omega) none none rfl (fun j j0 j1 => by omega)
    rw [show (((M 81 0 - 1).toNat : Nat) : Int) = M 81 0 - 1 by omega] at q
    exact q
set_option maxHeartbeats 4000000 in
set_option maxRecDepth 20000 in
theorem lm_findBest0 (D : Nat) (M : Mem) (l h : Int) (q4 : Option AV) (P : Option AV → Mem → Prop) (hP : Wp (D + 2) 152 (25, [some (.inr (.inr 80)), some (.inl l), some (.inl h), some (.inl 16), q4], [], setC M 89 (filF (M 89) 0 16)) P) : ∀ i : Int, 0 ≤ i → i ≤ 16 → Wp (D + 2) 152 (6, [some (.inr (.inr 80)), some (.inl l), some (.inl h), some (.inl i), q4], [], setC M 89 (filF (M 89) 0 i)) P := by
  refine loopZ 16 ?_
  intro i h0 h1 ih
  refine w_iload_n ta_152 rfl rfl ?_
  refine w_bipush ta_152 rfl ?_
  refine w_icmp_ge ta_152 rfl ⟨by omega, by omega⟩ ⟨by omega, by omega⟩ (fun h9 => ?_) (fun h9 => ?_)
  · have e : i = 16 := by omega
    subst e
    exact hP
  · refine w_aload_n ta_152 rfl rfl ?_
    refine w_getR ta_152 rfl rfl ?_
    refine w_iload_n ta_152 rfl rfl ?_
    refine w_iconst ta_152 rfl ?_
    refine w_iastore ta_152 rfl rfl (by omega) (by omega) (by omega) ?_
    refine w_iinc_3_5 ta_152 rfl rfl ?_
    refine w_goto ta_152 rfl ?_
    rw [wr_sc, filF_s _ _ h0]
    exact ih h9
set_option maxHeartbeats 4000000 in
set_option maxRecDepth 20000 in
theorem lm_findBest1 (D : Nat) (M : Mem) (n0 : 0 ≤ M 81 0) (n1 : M 81 0 ≤ 16) (l h m : Int) (P : Option AV → Mem → Prop) (hP : ∀ q, Wp (D + 2) 152 (103, [some (.inr (.inr 80)), some (.inl l), some (.inl h), some (.inl m), q], [], setC M 94 (cpF (M 94) (M 89) (M 81 0))) P) : ∀ i : Int, 0 ≤ i → i ≤ M 81 0 → Wp (D + 2) 152 (72, [some (.inr (.inr 80)), some (.inl l), some (.inl h), some (.inl m), some (.inl i)], [], setC M 94 (cpF (M 94) (M 89) i)) P := by
  refine loopZ (M 81 0) ?_
  intro i h0 h1 ih
  refine w_iload ta_152 rfl rfl ?_
  refine w_aload_n ta_152 rfl rfl ?_
  refine w_getR ta_152 rfl rfl ?_
  refine w_iconst ta_152 rfl ?_
  refine w_ialoadv (v := M 81 0) ta_152 rfl rfl (by decide) (by decide) (by omega) (by rw [sc_n _ _ (by decide)]) ?_
  refine w_icmp_ge ta_152 rfl ⟨by omega, by omega⟩ ⟨by omega, by omega⟩ (fun h80 => ?_) (fun h80 => ?_)
  · have e : i = M 81 0 := by omega
    rw [e]
    exact hP _
  · refine w_aload_n ta_152 rfl rfl ?_
    refine w_getR ta_152 rfl rfl ?_
    refine w_iload ta_152 rfl rfl ?_
    refine w_aload_n ta_152 rfl rfl ?_
    refine w_getR ta_152 rfl rfl ?_
    refine w_iload ta_152 rfl rfl ?_
    refine w_ialoadv (v := M 89 i) ta_152 rfl rfl (by omega) (by omega) (by omega) (by rw [sc_n _ _ (by decide)]) ?_
    refine w_iastore ta_152 rfl rfl (by omega) (by omega) (by omega) ?_
    refine w_iinc_4_5 ta_152 rfl rfl ?_
    refine w_goto ta_152 rfl ?_
    rw [wr_sc, cpF_s _ _ h0]
    exact ih h80
set_option maxHeartbeats 4000000 in
set_option maxRecDepth 20000 in
theorem lm_findBest2 (D : Nat) (M : Mem) (n0 : 0 ≤ M 81 0) (n1 : M 81 0 ≤ 16) (l h m : Int) : ∀ i : Int, 0 ≤ i → i ≤ M 81 0 → Wp (D + 2) 152 (114, [some (.inr (.inr 80)), some (.inl l), some (.inl h), some (.inl m), some (.inl i)], [], setC M 89 (cpF (M 89) (M 94) i)) (fun r M' => r = none ∧ M' = setC M 89 (cpF (M 89) (M 94) (M 81 0))) := by
  refine loopZ (M 81 0) ?_
  intro i h0 h1 ih
  refine w_iload ta_152 rfl rfl ?_
  refine w_aload_n ta_152 rfl rfl ?_
  refine w_getR ta_152 rfl rfl ?_
  refine w_iconst ta_152 rfl ?_
  refine w_ialoadv (v := M 81 0) ta_152 rfl rfl (by decide) (by decide) (by omega) (by rw [sc_n _ _ (by decide)]) ?_
  refine w_icmp_ge ta_152 rfl ⟨by omega, by omega⟩ ⟨by omega, by omega⟩ (fun h122 => ?_) (fun h122 => ?_)
  · refine w_vret ta_152 rfl ?_
    exact ⟨rfl, by rw [show i = M 81 0 by omega]⟩
  · refine w_aload_n ta_152 rfl rfl ?_
    refine w_getR ta_152 rfl rfl ?_
    refine w_iload ta_152 rfl rfl ?_
    refine w_aload_n ta_152 rfl rfl ?_
    refine w_getR ta_152 rfl rfl ?_
    refine w_iload ta_152 rfl rfl ?_
    refine w_ialoadv (v := M 94 i) ta_152 rfl rfl (by omega) (by omega) (by omega) (by rw [sc_n _ _ (by decide)]) ?_
    refine w_iastore ta_152 rfl rfl (by omega) (by omega) (by omega) ?_
    refine w_iinc_4_5 ta_152 rfl rfl ?_
    refine w_goto ta_152 rfl ?_
    rw [wr_sc, cpF_s _ _ h0]
    exact ih h122
set_option maxHeartbeats 4000000 in
set_option maxRecDepth 20000 in
theorem lm_findBest (D : Nat) (M : Mem) (hI : MdI M) : ∀ (m : Nat) (N : Mem) (a : Acc) (q4 : Option AV), (5 : Int) ^ (M 81 0).toNat - vN (N 89) (M 81 0).toNat ≤ m → (∀ c, c ≠ 88 → c ≠ 89 → c ≠ 94 → N c = M c) → (∀ j, 0 ≤ j → j < M 81 0 → 0 ≤ N 89 j ∧ N 89 j < M 81 1) → (0 ≤ a.1 → ∀ i, 0 ≤ i → i < M 81 0 → N 94 i = a.2.2 i) → AcB a → (rs (mC M) (M 81 0) (M 81 1) (M 81 0).toNat (N 89) (jd (mC M) (M 81 0) (M 81 1) (N 89) a)).2.2 = (way3 (mC M) (M 81 0) (M 81 1)) → Wp (D + 2) 152 (27, [some (.inr (.inr 80)), some (.inl a.1), some (.inl a.2.1), some (.inl 1), q4], [], N) (fun r M' => r = none ∧ ScM M M' ∧ ∀ i, 0 ≤ i → i < M 81 0 → M' 89 i = (way3 (mC M) (M 81 0) (M 81 1)) i) := by
  obtain ⟨n0, n1, k0, k1, f0, f1, r0, r1, s0, s1, hA⟩ := id hI
  intro m
  induction m with
  | zero =>
    intro N a q4 hm hF hR hf hB hFin
    have := vN_b (r := N 89) (M 81 0).toNat (fun x x0 x1 => by have := hR x x0 (by omega); omega)
    omega
  | succ m ih =>
    intro N a q4 hm hF hR hf hB hFin
    have eN : N 81 = M 81 := hF 81 (by decide) (by decide) (by decide)
    have hIN : MdI N := hI.of eN
    have eC : mC N = mC M := by unfold mC; rw [eN]
    have hc : ∀ i, 0 ≤ i → i < M 81 0 → 1 ≤ mC M i ∧ mC M i ≤ 999 := fun i i0 i1 => by have := hA i i0 i1; show 1 ≤ M 81 (5 + i) ∧ M 81 (5 + i) ≤ 999; omega
    obtain ⟨a0, a1, a2, a3⟩ := id hB
    have eW : mW N = fun g => sumG (mC M) (N 89) (M 81 0) g := by unfold mW; rw [eC, eN]
    have lg := lsG_b (tr := N 89) n1 hc (M 81 1) (by omega)
    have key : ∀ (b : Acc) (Z : Mem) (q : Option AV), b = jd (mC M) (M 81 0) (M 81 1) (N 89) a → (∀ c, c ≠ 88 → c ≠ 94 → Z c = N c) → (0 ≤ b.1 → ∀ i, 0 ≤ i → i < M 81 0 → Z 94 i = b.2.2 i) → Wp (D + 2) 152 (103, [some (.inr (.inr 80)), some (.inl b.1), some (.inl b.2.1), some (.inl 1), q], [], Z) (fun r M' => r = none ∧ ScM M M' ∧ ∀ i, 0 ≤ i → i < M 81 0 → M' 89 i = (way3 (mC M) (M 81 0) (M 81 1)) i) := by
      intro b Z q hb hZ hZf
      have z81 : Z 81 = M 81 := (hZ 81 (by decide) (by decide)).trans eN
      have z89 : Z 89 = N 89 := hZ 89 (by decide) (by decide)
      have hIZ : MdI Z := hI.of z81
      have hBb : AcB b := by rw [hb]; exact jd_B n1 hc (by omega) hB
      have nnb : 0 ≤ b.1 := by rw [hb]; exact jd_nn n1 hc (by omega) a
      have hFb := hFin
      rw [← hb] at hFb
      have hst : CI (D + 1) 151 [.inr (.inr 80)] Z (fun v M' => (v = 0 ∧ M' = Z ∧ ∀ j, 1 ≤ j → j < M 81 0 → cZ (N 89) (M 81 1) j ≤ N 89 j + 1) ∨ (v = 1 ∧ ∃ i, 1 ≤ i ∧ i < M 81 0 ∧ N 89 i + 1 < cZ (N 89) (M 81 1) i ∧ (∀ j, i < j → j < M 81 0 → cZ (N 89) (M 81 1) j ≤ N 89 j + 1) ∧ M' = setC Z 89 (nxR (M 81 0) (N 89) i))) := by
        have q := cm_steps (D + 1) Z hIZ (fun i i0 i1 => by rw [z81] at i1 ⊢; rw [z89]; exact hR i i0 i1)
        rw [z81, z89] at q
        exact q
      refine w_aload_n ta_152 rfl rfl ?_
      refine w_cI [_] _ ta_152 rfl rfl rfl mt_151 rfl rfl rfl rfl (Nat.le_of_ble_eq_true rfl) (fun _ => rfl) rfl (hst) ?_
      rintro v Z2 hv
      refine w_istn_3_5 ta_152 rfl rfl ?_
      refine w_goto ta_152 rfl ?_
      rcases hv with ⟨rfl, rfl, hE⟩ | ⟨rfl, i, i0, i1, hi, hE, hZ2⟩
      · refine w_iload_n ta_152 rfl rfl ?_
        refine w_if_eq ta_152 rfl ⟨by omega, by omega⟩ (fun h28 => ?_) (fun h28 => ?_)
        · refine w_iconst ta_152 rfl ?_
          refine w_ist_4_5 ta_152 rfl rfl ?_
          have q := lm_findBest2 D Z2 (by rw [z81]; exact n0) (by rw [z81]; exact n1) b.1 b.2.1 0 0 (by omega) (by rw [z81]; exact n0)
          rw [cpF_0, sc_id, z81] at q
          refine q.imp ?_
          rintro r M2 ⟨hr, hM2⟩
          refine ⟨hr, sc_89_sc (fun c c1 c2 => ?_) ?_, fun i i0 i1 => ?_⟩
          · rw [hM2, sc_n _ _ (by omega), hZ c (by omega) (by omega)]; exact hF c (by omega) (by omega) (by omega)
          · rw [hM2, sc_n _ _ (by decide), hZ 80 (by decide) (by decide)]; exact hF 80 (by decide) (by decide) (by decide)
          · rw [hM2, sc_s, cpF_at i0 i1, hZf nnb i i0 i1, ← hFb, rs_end (M 81 0).toNat b (by omega) (fun j j0 j1 => ?_)]
            by_cases z : j = 0
            · have := hR j (by omega) j1
              rw [z] at this ⊢
              have e0 : cZ (N 89) (M 81 1) 0 = 1 := by
                unfold cZ
                rw [show opZ (N 89) 0 = 0 from rfl]
                split <;> omega
              omega
            · exact hE j (by omega) j1
        · exfalso; omega
      · rw [hZ2]
        have hr2 : ∀ j, 0 ≤ j → j < M 81 0 → 0 ≤ nxR (M 81 0) (N 89) i j ∧ nxR (M 81 0) (N 89) i j < M 81 1 := fun j j0 j1 => by
          have q1 := hR j j0 j1
          have q2 := hR i (by omega) i1
          have cb := cZ_b (N 89) i (k := M 81 1) (by omega)
          unfold nxR
          split
          · exact q1
          · split
            · omega
            · first
                | (rw [if_pos j1]; omega)
                | omega
        have lt := vN_lt (r := N 89) (n := (M 81 0).toNat) (fun x x0 x1 => by have := hR x x0 (by omega); omega) (i := i.toNat) (by omega) (M 81 0).toNat (by omega) (by omega)
        rw [show (((M 81 0).toNat : Nat) : Int) = M 81 0 by omega, show ((i.toNat : Nat) : Int) = i by omega] at lt
        refine ih (setC Z 89 (nxR (M 81 0) (N 89) i)) b _ (by rw [sc_s]; omega) (fun c c1 c2 c3 => by rw [sc_n _ _ c2, hZ c c1 c3]; exact hF c c1 c2 c3) (by rw [sc_s]; exact hr2) (fun q i i0 i1 => by rw [sc_n _ _ (by decide)]; exact hZf q i i0 i1) hBb ?_
        rw [sc_s, ← rs_step (show 1 ≤ M 81 1 by omega) (by omega) i1 hi hE b (M 81 0).toNat (by omega) (by omega)]
        exact hFb
    refine w_iload_n ta_152 rfl rfl ?_
    refine w_if_eq ta_152 rfl ⟨by omega, by omega⟩ (fun h28 => ?_) (fun h28 => ?_)
    · exfalso; omega
    · refine w_aload_n ta_152 rfl rfl ?_
      refine w_cV [_] _ ta_152 rfl rfl rfl mt_126 rfl rfl rfl rfl (Nat.le_of_ble_eq_true rfl) (fun _ => rfl) rfl (cm_sumFound _ N hIN (fun i i0 i1 => by rw [eN] at i1 ⊢; exact hR i i0 i1)) ?_
      rintro Z hS
      have hr := hS.r hIN
      have z81 : Z 81 = M 81 := (hS.1 81 (by decide)).trans eN
      have hIZ : MdI Z := hI.of z81
      have eLs : lsZ (Z 88) (Z 81 1) = lsZ (mW N) (M 81 1) := by rw [hS.ls hIN, eN]
      have eGr : grZ (Z 88) (Z 81 1) = grZ (mW N) (M 81 1) := by rw [hS.gr hIN, eN]
      rw [← eW] at lg
      refine w_aload_n ta_152 rfl rfl ?_
      refine w_cI [_] _ ta_152 rfl rfl rfl mt_128 rfl rfl rfl rfl (Nat.le_of_ble_eq_true rfl) (fun _ => rfl) rfl (cm_least _ Z hIZ hr) ?_
      rintro v Z2 ⟨hv, rfl⟩
      rw [eLs] at hv
      refine w_iload_n ta_152 rfl rfl ?_
      refine w_icmp_gt ta_152 rfl ⟨by omega, by omega⟩ ⟨by omega, by omega⟩ (fun h40 => ?_) (fun h40 => ?_)
      · have c0 : (a.1 < lsZ (mW N) (M 81 1) ∨ (lsZ (mW N) (M 81 1) = a.1 ∧ grZ (mW N) (M 81 1) < a.2.1)) := by omega
        refine w_aload_n ta_152 rfl rfl ?_
        refine w_cI [_] _ ta_152 rfl rfl rfl mt_128 rfl rfl rfl rfl (Nat.le_of_ble_eq_true rfl) (fun _ => rfl) rfl (cm_least _ _ hIZ hr) ?_
        rintro v5 Z5 ⟨hv5, rfl⟩
        rw [eLs] at hv5
        refine w_istn_1_5 ta_152 rfl rfl ?_
        refine w_aload_n ta_152 rfl rfl ?_
        refine w_cI [_] _ ta_152 rfl rfl rfl mt_129 rfl rfl rfl rfl (Nat.le_of_ble_eq_true rfl) (fun _ => rfl) rfl (cm_greatest _ _ hIZ hr) ?_
        rintro v6 Z6 ⟨hv6, rfl⟩
        rw [eGr] at hv6
        refine w_istn_2_5 ta_152 rfl rfl ?_
        refine w_iconst ta_152 rfl ?_
        refine w_ist_4_5 ta_152 rfl rfl ?_
        have ej : jd (mC M) (M 81 0) (M 81 1) (N 89) a = (lsZ (mW N) (M 81 1), grZ (mW N) (M 81 1), cut (M 81 0) (N 89)) := by
          rw [eW] at c0 ⊢
          unfold jd
          rw [if_pos c0]
        have q := fun P hP => lm_findBest1 D Z6 (by rw [z81]; exact n0) (by rw [z81]; exact n1) v5 v6 1 P hP 0 (by omega) (by rw [z81]; exact n0)
        rw [cpF_0, sc_id] at q
        refine q _ (fun q2 => ?_)
        rw [hv5, hv6]
        exact key (lsZ (mW N) (M 81 1), grZ (mW N) (M 81 1), cut (M 81 0) (N 89)) _ q2 ej.symm (fun c c1 c2 => by rw [sc_n _ _ c2]; exact hS.1 c c1) (fun _ i i0 i1 => by rw [sc_s, z81, cpF_at i0 i1, hS.1 89 (by decide)]; exact (cut_at i0 i1).symm)
      · refine w_aload_n ta_152 rfl rfl ?_
        refine w_cI [_] _ ta_152 rfl rfl rfl mt_128 rfl rfl rfl rfl (Nat.le_of_ble_eq_true rfl) (fun _ => rfl) rfl (cm_least _ _ hIZ hr) ?_
        rintro v2 Z3 ⟨hv2, rfl⟩
        rw [eLs] at hv2
        refine w_iload_n ta_152 rfl rfl ?_
        refine w_icmp_ne ta_152 rfl ⟨by omega, by omega⟩ ⟨by omega, by omega⟩ (fun h48 => ?_) (fun h48 => ?_)
        · have c0 : ¬ (a.1 < lsZ (mW N) (M 81 1) ∨ (lsZ (mW N) (M 81 1) = a.1 ∧ grZ (mW N) (M 81 1) < a.2.1)) := by omega
          have ej : jd (mC M) (M 81 0) (M 81 1) (N 89) a = a := by
            rw [eW] at c0
            unfold jd
            rw [if_neg c0]
          exact key a _ q4 ej.symm (fun c c1 c2 => hS.1 c c1) (fun q i i0 i1 => by rw [hS.1 94 (by decide)]; exact hf q i i0 i1)
        · refine w_aload_n ta_152 rfl rfl ?_
          refine w_cI [_] _ ta_152 rfl rfl rfl mt_129 rfl rfl rfl rfl (Nat.le_of_ble_eq_true rfl) (fun _ => rfl) rfl (cm_greatest _ _ hIZ hr) ?_
          rintro v3 Z4 ⟨hv3, rfl⟩
          rw [eGr] at hv3
          refine w_iload_n ta_152 rfl rfl ?_
          refine w_icmp_ge ta_152 rfl ⟨by omega, by omega⟩ ⟨by omega, by omega⟩ (fun h56 => ?_) (fun h56 => ?_)
          · have c0 : ¬ (a.1 < lsZ (mW N) (M 81 1) ∨ (lsZ (mW N) (M 81 1) = a.1 ∧ grZ (mW N) (M 81 1) < a.2.1)) := by omega
            have ej : jd (mC M) (M 81 0) (M 81 1) (N 89) a = a := by
              rw [eW] at c0
              unfold jd
              rw [if_neg c0]
            exact key a _ q4 ej.symm (fun c c1 c2 => hS.1 c c1) (fun q i i0 i1 => by rw [hS.1 94 (by decide)]; exact hf q i i0 i1)
          · have c0 : (a.1 < lsZ (mW N) (M 81 1) ∨ (lsZ (mW N) (M 81 1) = a.1 ∧ grZ (mW N) (M 81 1) < a.2.1)) := by omega
            refine w_aload_n ta_152 rfl rfl ?_
            refine w_cI [_] _ ta_152 rfl rfl rfl mt_128 rfl rfl rfl rfl (Nat.le_of_ble_eq_true rfl) (fun _ => rfl) rfl (cm_least _ _ hIZ hr) ?_
            rintro v5 Z5 ⟨hv5, rfl⟩
            rw [eLs] at hv5
            refine w_istn_1_5 ta_152 rfl rfl ?_
            refine w_aload_n ta_152 rfl rfl ?_
            refine w_cI [_] _ ta_152 rfl rfl rfl mt_129 rfl rfl rfl rfl (Nat.le_of_ble_eq_true rfl) (fun _ => rfl) rfl (cm_greatest _ _ hIZ hr) ?_
            rintro v6 Z6 ⟨hv6, rfl⟩
            rw [eGr] at hv6
            refine w_istn_2_5 ta_152 rfl rfl ?_
            refine w_iconst ta_152 rfl ?_
            refine w_ist_4_5 ta_152 rfl rfl ?_
            have ej : jd (mC M) (M 81 0) (M 81 1) (N 89) a = (lsZ (mW N) (M 81 1), grZ (mW N) (M 81 1), cut (M 81 0) (N 89)) := by
              rw [eW] at c0 ⊢
              unfold jd
              rw [if_pos c0]
            have q := fun P hP => lm_findBest1 D Z6 (by rw [z81]; exact n0) (by rw [z81]; exact n1) v5 v6 1 P hP 0 (by omega) (by rw [z81]; exact n0)
            rw [cpF_0, sc_id] at q
            refine q _ (fun q2 => ?_)
            rw [hv5, hv6]
            exact key (lsZ (mW N) (M 81 1), grZ (mW N) (M 81 1), cut (M 81 0) (N 89)) _ q2 ej.symm (fun c c1 c2 => by rw [sc_n _ _ c2]; exact hS.1 c c1) (fun _ i i0 i1 => by rw [sc_s, z81, cpF_at i0 i1, hS.1 89 (by decide)]; exact (cut_at i0 i1).symm)
set_option maxHeartbeats 4000000 in
set_option maxRecDepth 20000 in
theorem cm_findBest (D : Nat) (M : Mem) (hI : MdI M) : CV (D + 2) 152 [.inr (.inr 80)] M (fun M' => ScM M M' ∧ ∀ i, 0 ≤ i → i < M 81 0 → M' 89 i = (way3 (mC M) (M 81 0) (M 81 1)) i) := by
  refine mk_C mt_152 rfl (Nat.le_of_ble_eq_true rfl) (L := [some _, none, none, none, none]) rfl ?_
  obtain ⟨n0, n1, k0, k1, f0, f1, r0, r1, s0, s1, hA⟩ := id hI
  refine w_iconst ta_152 rfl ?_
  refine w_istn_1_5 ta_152 rfl rfl ?_
  refine w_iconst ta_152 rfl ?_
  refine w_istn_2_5 ta_152 rfl rfl ?_
  refine w_iconst ta_152 rfl ?_
  refine w_istn_3_5 ta_152 rfl rfl ?_
  have q := fun P hP => lm_findBest0 D M (-1) 0 none P hP 0 (by omega) (by omega)
  rw [filF_0, sc_id] at q
  refine q _ ?_
  refine w_iconst ta_152 rfl ?_
  refine w_istn_3_5 ta_152 rfl rfl ?_
  have e1 : setC M 89 (filF (M 89) 0 16) 89 = filF (M 89) 0 16 := sc_s _ _ _
  have hz : ∀ j, 0 ≤ j → j < M 81 0 → filF (M 89) 0 16 j = 0 := fun j j0 j1 => if_pos ⟨j0, by omega⟩
  refine lm_findBest D M hI ((5 : Int) ^ (M 81 0).toNat - vN (filF (M 89) 0 16) (M 81 0).toNat).toNat (setC M 89 (filF (M 89) 0 16)) (-1, 0, fun _ => 0) none ?_ (fun c c1 c2 c3 => sc_n _ _ c2) (fun j j0 j1 => ?_) (fun q => absurd q (by show ¬ (0 : Int) ≤ -1; omega)) (by unfold AcB; decide) ?_
  · rw [e1]; omega
  · rw [e1, hz j j0 j1]; omega
  · rw [e1]
    have hc : ∀ i, 0 ≤ i → i < M 81 0 → 1 ≤ mC M i ∧ mC M i ≤ 999 := fun i i0 i1 => by have := hA i i0 i1; show 1 ≤ M 81 (5 + i) ∧ M 81 (5 + i) ≤ 999; omega
    unfold way3
    rw [bs_lo n1 hc (by omega) (M 81 0).toNat (fun _ => 0) (-4, -4, fun _ => 0) (-1, 0, fun _ => 0) (by show (-4 : Int) < 0; omega) (by show (-1 : Int) < 0; omega), bs_rs (by omega) (M 81 0).toNat _ _ (by omega)]
    have ez : ∀ j, 0 ≤ j → j < M 81 0 → filF (M 89) 0 16 j = zr (fun _ => 0) (M 81 0 - ((M 81 0).toNat : Int)) j := fun j j0 j1 => by
      rw [hz j j0 j1]
      unfold zr
      split <;> rfl
    rw [jd_cg ez, rs_cg ez _ _ (by omega)]
