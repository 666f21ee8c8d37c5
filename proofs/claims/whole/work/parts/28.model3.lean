/-! the reference: cells come and go, ticks -/
/-- the state's row behind a cell more -/
def cmF (f : Int → Int) (v g : Int) : Int → Int := upI (upI (upI (upI f (5 + f 0) v) (21 + f 0) v) (37 + f 0) g) 0 (f 0 + 1)
def CmP (v : Int) (M M' : Mem) : Prop := (∀ c, c ≠ 81 → c ≠ 88 → M' c = M c) ∧ M' 81 = cmF (M 81) v (flZ (mS M 21) (M 81 1))
theorem cmF_0 (f : Int → Int) (v g : Int) : cmF f v g 0 = f 0 + 1 := up_s _ _ _
theorem cmF_r {f : Int → Int} {v g z : Int} (h0 : 0 ≤ f 0) (z0 : 1 ≤ z) (z1 : z < 5) : cmF f v g z = f z := by
  unfold cmF
  rw [up_n _ _ (by omega), up_n _ _ (by omega), up_n _ _ (by omega), up_n _ _ (by omega)]
theorem cmF_c {f : Int → Int} {v g : Int} (h0 : 0 ≤ f 0) (h1 : f 0 < 16) : ∀ x, 0 ≤ x → x < 16 → cmF f v g (5 + x) = upI (fun i => f (5 + i)) (f 0) v x ∧ cmF f v g (21 + x) = upI (fun i => f (21 + i)) (f 0) v x ∧ cmF f v g (37 + x) = upI (fun i => f (37 + i)) (f 0) g x := by
  intro x x0 x1
  unfold cmF upI
  refine ⟨?_, ?_, ?_⟩
  · rw [if_neg (by omega), if_neg (by omega), if_neg (by omega)]
    by_cases e : x = f 0
    · rw [if_pos (by omega), if_pos e]
    · rw [if_neg (by omega), if_neg e]
  · rw [if_neg (by omega), if_neg (by omega)]
    by_cases e : x = f 0
    · rw [if_pos (by omega), if_pos e]
    · rw [if_neg (by omega), if_neg e, if_neg (by omega)]
  · rw [if_neg (by omega)]
    by_cases e : x = f 0
    · rw [if_pos (by omega), if_pos e]
    · rw [if_neg (by omega), if_neg e, if_neg (by omega), if_neg (by omega)]
theorem CmP.I {v : Int} {M M' : Mem} (h : CmP v M M') (hI : MdI M) (v0 : 1 ≤ v) (v1 : v ≤ 999) (n2 : M 81 0 < 16) : MdI M' := by
  obtain ⟨n0, n1, k0, k1, f0, f1, r0, r1, s0, s1, hA⟩ := id hI
  have b := flZ_b (mS M 21) (k := M 81 1) (by omega)
  unfold MdI
  rw [h.2, cmF_0, cmF_r n0 (by omega) (by omega), cmF_r n0 (by omega) (by omega), cmF_r n0 (by omega) (by omega), cmF_r n0 (by omega) (by omega)]
  refine ⟨by omega, by omega, k0, k1, f0, f1, r0, r1, s0, s1, fun x h0 h1 => ?_⟩
  obtain ⟨c1, c2, c3⟩ := cmF_c (f := M 81) (v := v) (g := flZ (mS M 21) (M 81 1)) n0 n2 x h0 (by omega)
  rw [c1, c2, c3]
  unfold upI
  by_cases e : x = M 81 0
  · rw [if_pos e, if_pos e, if_pos e]
    omega
  · rw [if_neg e, if_neg e, if_neg e]
    exact hA x h0 (by omega)
set_option maxHeartbeats 4000000 in
set_option maxRecDepth 20000 in
theorem cm_comes (D : Nat) (M : Mem) (hI : MdI M) (v : Int) (n2 : M 81 0 < 16) : CV (D + 2) 170 [.inr (.inr 80), .inl v] M (fun M' => CmP v M M') := by
  refine mk_C mt_170 rfl (Nat.le_of_ble_eq_true rfl) (L := [some _, some _, none, none]) rfl ?_
  obtain ⟨n0, n1, k0, k1, f0, f1, r0, r1, s0, s1, hA⟩ := id hI
  refine w_aload_n ta_170 rfl rfl ?_
  refine w_cI [_] _ ta_170 rfl rfl rfl mt_132 rfl rfl rfl rfl (Nat.le_of_ble_eq_true rfl) (fun _ => rfl) rfl (cm_weakestNow _ M hI) ?_
  rintro g M2 ⟨hg, hS⟩
  have e : M2 81 = M 81 := hS.1 81 (by decide)
  refine w_istn_2_4 ta_170 rfl rfl ?_
  refine w_aload_n ta_170 rfl rfl ?_
  refine w_getR ta_170 rfl rfl ?_
  refine w_iconst ta_170 rfl ?_
  refine w_ialoadv (v := M 81 0) ta_170 rfl rfl (by decide) (by decide) (by omega) (by rw [e]) ?_
  refine w_istn_3_4 ta_170 rfl rfl ?_
  refine w_aload_n ta_170 rfl rfl ?_
  refine w_getR ta_170 rfl rfl ?_
  refine w_iconst ta_170 rfl ?_
  refine w_iload_n ta_170 rfl rfl ?_
  refine w_iadd ta_170 rfl ?_
  refine w_iload_n ta_170 rfl rfl ?_
  refine w_iastore ta_170 rfl rfl (by omega) (by omega) (by omega) ?_
  refine w_aload_n ta_170 rfl rfl ?_
  refine w_getR ta_170 rfl rfl ?_
  refine w_bipush ta_170 rfl ?_
  refine w_iload_n ta_170 rfl rfl ?_
  refine w_iadd ta_170 rfl ?_
  refine w_iload_n ta_170 rfl rfl ?_
  refine w_iastore ta_170 rfl rfl (by omega) (by omega) (by omega) ?_
  refine w_aload_n ta_170 rfl rfl ?_
  refine w_getR ta_170 rfl rfl ?_
  refine w_bipush ta_170 rfl ?_
  refine w_iload_n ta_170 rfl rfl ?_
  refine w_iadd ta_170 rfl ?_
  refine w_iload_n ta_170 rfl rfl ?_
  refine w_iastore ta_170 rfl rfl (by omega) (by omega) (by omega) ?_
  refine w_aload_n ta_170 rfl rfl ?_
  refine w_getR ta_170 rfl rfl ?_
  refine w_iconst ta_170 rfl ?_
  refine w_dup2 ta_170 rfl rfl rfl ?_
  refine w_ialoadv (v := M 81 0) ta_170 rfl rfl (by decide) (by decide) (by omega) (by show upI (upI (upI (M2 81) _ _) _ _) _ _ 0 = _; rw [up_n _ _ (by omega), up_n _ _ (by omega), up_n _ _ (by omega), e]) ?_
  refine w_iconst ta_170 rfl ?_
  refine w_iadd ta_170 rfl ?_
  refine w_iastore ta_170 rfl rfl (by decide) (by decide) (by omega) ?_
  refine w_vret ta_170 rfl ?_
  refine ⟨rfl, fun c c1 c2 => ?_, ?_⟩
  · exact (wr_n _ _ _ c1).trans ((wr_n _ _ _ c1).trans ((wr_n _ _ _ c1).trans ((wr_n _ _ _ c1).trans (hS.1 c c2))))
  · rw [← hg, ← e]
    rfl
set_option maxHeartbeats 4000000 in
set_option maxRecDepth 20000 in
theorem cm_add (D : Nat) (M : Mem) (hI : MdI M) (x : Int) (hx : inR x) : CI (D + 3) 171 [.inr (.inr 80), .inl x] M (fun v M' => (¬ (1 ≤ x ∧ x ≤ 999) ∧ v = -1 ∧ M' = M) ∨ ((1 ≤ x ∧ x ≤ 999) ∧ M 81 0 = 16 ∧ v = -3 ∧ M' = M) ∨ ((1 ≤ x ∧ x ≤ 999) ∧ M 81 0 < 16 ∧ v = M 81 0 + 1 ∧ CmP x M M')) := by
  refine mk_C mt_171 rfl (Nat.le_of_ble_eq_true rfl) (L := [some _, some _]) rfl ?_
  obtain ⟨n0, n1, k0, k1, f0, f1, r0, r1, s0, s1, hA⟩ := id hI
  obtain ⟨x0, x1⟩ := id hx
  refine w_iload_n ta_171 rfl rfl ?_
  refine w_i2l ta_171 rfl ⟨by omega, by omega⟩ ?_
  refine w_lconst ta_171 rfl ?_
  refine w_ldc2_w ta_171 rfl ?_
  refine w_cI [_, _, _] _ ta_171 rfl rfl rfl mt_106 rfl rfl rfl rfl (Nat.le_of_ble_eq_true rfl) (fun q => by cases q) rfl (cm_in _ x 1 999 M (by constructor <;> omega) (by constructor <;> omega) (by constructor <;> omega)) ?_
  rintro v M2 ⟨hv, rfl⟩
  refine w_if_ne ta_171 rfl ⟨by omega, by omega⟩ (fun h9 => ?_) (fun h9 => ?_)
  · refine w_aload_n ta_171 rfl rfl ?_
    refine w_getR ta_171 rfl rfl ?_
    refine w_iconst ta_171 rfl ?_
    refine w_iaload ta_171 rfl rfl (by decide) (by decide) (by omega) ?_
    refine w_bipush ta_171 rfl ?_
    refine w_icmp_ne ta_171 rfl ⟨by omega, by omega⟩ ⟨by omega, by omega⟩ (fun h22 => ?_) (fun h22 => ?_)
    · refine w_aload_n ta_171 rfl rfl ?_
      refine w_iload_n ta_171 rfl rfl ?_
      refine w_cV [_, _] _ ta_171 rfl rfl rfl mt_170 rfl rfl rfl rfl (Nat.le_of_ble_eq_true rfl) (fun _ => rfl) rfl (cm_comes _ M2 hI x (by omega)) ?_
      rintro M3 hP
      refine w_aload_n ta_171 rfl rfl ?_
      refine w_getR ta_171 rfl rfl ?_
      refine w_iconst ta_171 rfl ?_
      refine w_ialoadv (v := M2 81 0 + 1) ta_171 rfl rfl (by decide) (by decide) (by omega) (by rw [hP.2, cmF_0]) ?_
      refine w_iret ta_171 rfl (Or.inl rfl) ?_
      exact ⟨_, rfl, Or.inr (Or.inr ⟨by omega, by omega, rfl, hP⟩)⟩
    · refine w_bipush ta_171 rfl ?_
      refine w_iret ta_171 rfl (Or.inl rfl) ?_
      exact ⟨_, rfl, Or.inr (Or.inl ⟨by omega, by omega, rfl, rfl⟩)⟩
  · refine w_iconst ta_171 rfl ?_
    refine w_iret ta_171 rfl (Or.inl rfl) ?_
    exact ⟨_, rfl, Or.inl ⟨by omega, rfl, rfl⟩⟩
/-- cell x goes: those below j have moved -/
def drF (f : Int → Int) (x j : Int) : Int → Int := fun z => if (5 + x ≤ z ∧ z < 5 + j) ∨ (21 + x ≤ z ∧ z < 21 + j) ∨ (37 + x ≤ z ∧ z < 37 + j) then f (z + 1) else f z
theorem drF_0 (f : Int → Int) (x : Int) : drF f x x = f := by funext z; exact if_neg (by omega)
theorem drF_s (f : Int → Int) {x j : Int} (h0 : 0 ≤ x) (h : x ≤ j) (h1 : j < 15) : upI (upI (upI (drF f x j) (5 + j) (drF f x j (5 + j + 1))) (21 + j) (drF f x j (21 + j + 1))) (37 + j) (drF f x j (37 + j + 1)) = drF f x (j + 1) := by
  have e1 : drF f x j (5 + j + 1) = f (5 + j + 1) := if_neg (by omega)
  have e2 : drF f x j (21 + j + 1) = f (21 + j + 1) := if_neg (by omega)
  have e3 : drF f x j (37 + j + 1) = f (37 + j + 1) := if_neg (by omega)
  rw [e1, e2, e3]
  funext z
  unfold upI drF
  by_cases a : z = 37 + j
  · subst a; rw [if_pos rfl, if_pos (by omega)]
  · rw [if_neg a]
    by_cases b : z = 21 + j
    · subst b; rw [if_pos rfl, if_pos (by omega)]
    · rw [if_neg b]
      by_cases c : z = 5 + j
      · subst c; rw [if_pos rfl, if_pos (by omega)]
      · rw [if_neg c]
        by_cases d : (5 + x ≤ z ∧ z < 5 + j) ∨ (21 + x ≤ z ∧ z < 21 + j) ∨ (37 + x ≤ z ∧ z < 37 + j)
        · rw [if_pos d, if_pos (by omega)]
        · rw [if_neg d, if_neg (by omega)]
theorem drF_o {f : Int → Int} {x j z : Int} (h0 : 0 ≤ x) (hz : z < 5) : drF f x j z = f z := if_neg (by omega)
set_option maxHeartbeats 4000000 in
set_option maxRecDepth 20000 in
theorem lm_drop (D : Nat) (M : Mem) (hI : MdI M) (x : Int) (x0 : 0 ≤ x) (x1 : x < M 81 0) : ∀ j : Int, x ≤ j → j ≤ M 81 0 - 1 → Wp (D + 2) 172 (12, [some (.inr (.inr 80)), some (.inl x), some (.inl j)], [], setC M 81 (drF (M 81) x j)) (fun r M' => ∃ v, r = some (.inl v) ∧ (v = M 81 0 - 1 ∧ M' = setC M 81 (upI (drF (M 81) x (M 81 0 - 1)) 0 (M 81 0 - 1)))) := by
  obtain ⟨n0, n1, k0, k1, f0, f1, r0, r1, s0, s1, hA⟩ := id hI
  refine loopO x (M 81 0 - 1) ?_
  intro j h0 h1 ih
  refine w_iload_n ta_172 rfl rfl ?_
  refine w_aload_n ta_172 rfl rfl ?_
  refine w_getR ta_172 rfl rfl ?_
  refine w_iconst ta_172 rfl ?_
  refine w_ialoadv (v := M 81 0) ta_172 rfl rfl (by decide) (by decide) (by omega) (by rw [sc_s, drF_o x0 (by omega)]) ?_
  refine w_iconst ta_172 rfl ?_
  refine w_isub ta_172 rfl ?_
  refine w_icmp_ge ta_172 rfl ⟨by omega, by omega⟩ ⟨by omega, by omega⟩ (fun h21 => ?_) (fun h21 => ?_)
  · refine w_aload_n ta_172 rfl rfl ?_
    refine w_getR ta_172 rfl rfl ?_
    refine w_iconst ta_172 rfl ?_
    refine w_dup2 ta_172 rfl rfl rfl ?_
    refine w_ialoadv (v := M 81 0) ta_172 rfl rfl (by decide) (by decide) (by omega) (by rw [sc_s, drF_o x0 (by omega)]) ?_
    refine w_iconst ta_172 rfl ?_
    refine w_isub ta_172 rfl ?_
    refine w_iastore ta_172 rfl rfl (by decide) (by decide) (by omega) ?_
    refine w_aload_n ta_172 rfl rfl ?_
    refine w_getR ta_172 rfl rfl ?_
    refine w_iconst ta_172 rfl ?_
    refine w_ialoadv (v := M 81 0 - 1) ta_172 rfl rfl (by decide) (by decide) (by omega) (by rw [wr_sc, sc_s, up_s]) ?_
    refine w_iret ta_172 rfl (Or.inl rfl) ?_
    have e : j = M 81 0 - 1 := by omega
    subst e
    exact ⟨_, rfl, rfl, by rw [wr_sc]⟩
  · refine w_aload_n ta_172 rfl rfl ?_
    refine w_getR ta_172 rfl rfl ?_
    refine w_iconst ta_172 rfl ?_
    refine w_iload_n ta_172 rfl rfl ?_
    refine w_iadd ta_172 rfl ?_
    refine w_aload_n ta_172 rfl rfl ?_
    refine w_getR ta_172 rfl rfl ?_
    refine w_iconst ta_172 rfl ?_
    refine w_iload_n ta_172 rfl rfl ?_
    refine w_iadd ta_172 rfl ?_
    refine w_iconst ta_172 rfl ?_
    refine w_iadd ta_172 rfl ?_
    refine w_ialoadv (v := drF (M 81) x j (5 + j + 1)) ta_172 rfl rfl (by omega) (by omega) (by omega) (by rw [sc_s]) ?_
    refine w_iastore ta_172 rfl rfl (by omega) (by omega) (by omega) ?_
    refine w_aload_n ta_172 rfl rfl ?_
    refine w_getR ta_172 rfl rfl ?_
    refine w_bipush ta_172 rfl ?_
    refine w_iload_n ta_172 rfl rfl ?_
    refine w_iadd ta_172 rfl ?_
    refine w_aload_n ta_172 rfl rfl ?_
    refine w_getR ta_172 rfl rfl ?_
    refine w_bipush ta_172 rfl ?_
    refine w_iload_n ta_172 rfl rfl ?_
    refine w_iadd ta_172 rfl ?_
    refine w_iconst ta_172 rfl ?_
    refine w_iadd ta_172 rfl ?_
    refine w_ialoadv (v := drF (M 81) x j (21 + j + 1)) ta_172 rfl rfl (by omega) (by omega) (by omega) (by show upI (drF (M 81) x j) _ _ _ = _; rw [up_n _ _ (by omega)]) ?_
    refine w_iastore ta_172 rfl rfl (by omega) (by omega) (by omega) ?_
    refine w_aload_n ta_172 rfl rfl ?_
    refine w_getR ta_172 rfl rfl ?_
    refine w_bipush ta_172 rfl ?_
    refine w_iload_n ta_172 rfl rfl ?_
    refine w_iadd ta_172 rfl ?_
    refine w_aload_n ta_172 rfl rfl ?_
    refine w_getR ta_172 rfl rfl ?_
    refine w_bipush ta_172 rfl ?_
    refine w_iload_n ta_172 rfl rfl ?_
    refine w_iadd ta_172 rfl ?_
    refine w_iconst ta_172 rfl ?_
    refine w_iadd ta_172 rfl ?_
    refine w_ialoadv (v := drF (M 81) x j (37 + j + 1)) ta_172 rfl rfl (by omega) (by omega) (by omega) (by show upI (upI (drF (M 81) x j) _ _) _ _ _ = _; rw [up_n _ _ (by omega), up_n _ _ (by omega)]) ?_
    refine w_iastore ta_172 rfl rfl (by omega) (by omega) (by omega) ?_
    refine w_iinc_2_3 ta_172 rfl rfl ?_
    refine w_goto ta_172 rfl ?_
    rw [wr_sc, wr_sc, wr_sc, drF_s _ x0 h0 (by omega)]
    exact ih h21
set_option maxHeartbeats 4000000 in
set_option maxRecDepth 20000 in
theorem cm_drop (D : Nat) (M : Mem) (hI : MdI M) (x : Int) (hx : inR x) : CI (D + 2) 172 [.inr (.inr 80), .inl x] M (fun v M' => (¬ (0 ≤ x ∧ x < M 81 0) ∧ v = -1 ∧ M' = M) ∨ ((0 ≤ x ∧ x < M 81 0) ∧ v = M 81 0 - 1 ∧ M' = setC M 81 (upI (drF (M 81) x (M 81 0 - 1)) 0 (M 81 0 - 1)))) := by
  refine mk_C mt_172 rfl (Nat.le_of_ble_eq_true rfl) (L := [some _, some _, none]) rfl ?_
  obtain ⟨n0, n1, k0, k1, f0, f1, r0, r1, s0, s1, hA⟩ := id hI
  refine w_aload_n ta_172 rfl rfl ?_
  refine w_iload_n ta_172 rfl rfl ?_
  refine w_cI [_, _] _ ta_172 rfl rfl rfl mt_123 rfl rfl rfl rfl (Nat.le_of_ble_eq_true rfl) (fun _ => rfl) rfl (cm_isCell _ M hI x hx) ?_
  rintro v M2 ⟨hv, rfl⟩
  refine w_if_ne ta_172 rfl ⟨by omega, by omega⟩ (fun h5 => ?_) (fun h5 => ?_)
  · refine w_iload_n ta_172 rfl rfl ?_
    refine w_istn_2_3 ta_172 rfl rfl ?_
    have q := lm_drop D M2 hI x (by omega) (by omega) x (by omega) (by omega)
    rw [drF_0, sc_id] at q
    refine q.imp ?_
    rintro r M3 ⟨w, hr, hw, hM⟩
    exact ⟨w, hr, Or.inr ⟨by omega, hw, hM⟩⟩
  · refine w_iconst ta_172 rfl ?_
    refine w_iret ta_172 rfl (Or.inl rfl) ?_
    exact ⟨_, rfl, Or.inl ⟨by omega, rfl, rfl⟩⟩
set_option maxHeartbeats 4000000 in
set_option maxRecDepth 20000 in
theorem cm_set (D : Nat) (M : Mem) (hI : MdI M) (x w : Int) (hx : inR x) (hw : inR w) : CI (D + 2) 173 [.inr (.inr 80), .inl x, .inl w] M (fun v M' => (¬ ((0 ≤ x ∧ x < M 81 0) ∧ 1 ≤ w ∧ w ≤ 999) ∧ v = -1 ∧ M' = M) ∨ (((0 ≤ x ∧ x < M 81 0) ∧ 1 ≤ w ∧ w ≤ 999) ∧ v = M 81 (5 + x) ∧ M' = wr (wr M 81 (5 + x) w) 81 (21 + x) w)) := by
  refine mk_C mt_173 rfl (Nat.le_of_ble_eq_true rfl) (L := [some _, some _, some _, none]) rfl ?_
  obtain ⟨n0, n1, k0, k1, f0, f1, r0, r1, s0, s1, hA⟩ := id hI
  obtain ⟨w0, w1⟩ := id hw
  refine w_aload_n ta_173 rfl rfl ?_
  refine w_iload_n ta_173 rfl rfl ?_
  refine w_cI [_, _] _ ta_173 rfl rfl rfl mt_123 rfl rfl rfl rfl (Nat.le_of_ble_eq_true rfl) (fun _ => rfl) rfl (cm_isCell _ M hI x hx) ?_
  rintro v M2 ⟨hv, rfl⟩
  refine w_if_eq ta_173 rfl ⟨by omega, by omega⟩ (fun h5 => ?_) (fun h5 => ?_)
  · refine w_iconst ta_173 rfl ?_
    refine w_iret ta_173 rfl (Or.inl rfl) ?_
    exact ⟨_, rfl, Or.inl ⟨by omega, rfl, rfl⟩⟩
  · refine w_iload_n ta_173 rfl rfl ?_
    refine w_i2l ta_173 rfl ⟨by omega, by omega⟩ ?_
    refine w_lconst ta_173 rfl ?_
    refine w_ldc2_w ta_173 rfl ?_
    refine w_cI [_, _, _] _ ta_173 rfl rfl rfl mt_106 rfl rfl rfl rfl (Nat.le_of_ble_eq_true rfl) (fun q => by cases q) rfl (cm_in _ w 1 999 M2 (by constructor <;> omega) (by constructor <;> omega) (by constructor <;> omega)) ?_
    rintro v2 M3 ⟨hv2, rfl⟩
    refine w_if_ne ta_173 rfl ⟨by omega, by omega⟩ (fun h17 => ?_) (fun h17 => ?_)
    · refine w_aload_n ta_173 rfl rfl ?_
      refine w_getR ta_173 rfl rfl ?_
      refine w_iconst ta_173 rfl ?_
      refine w_iload_n ta_173 rfl rfl ?_
      refine w_iadd ta_173 rfl ?_
      refine w_iaload ta_173 rfl rfl (by omega) (by omega) (by omega) ?_
      refine w_istn_3_4 ta_173 rfl rfl ?_
      refine w_aload_n ta_173 rfl rfl ?_
      refine w_getR ta_173 rfl rfl ?_
      refine w_iconst ta_173 rfl ?_
      refine w_iload_n ta_173 rfl rfl ?_
      refine w_iadd ta_173 rfl ?_
      refine w_iload_n ta_173 rfl rfl ?_
      refine w_iastore ta_173 rfl rfl (by omega) (by omega) (by omega) ?_
      refine w_aload_n ta_173 rfl rfl ?_
      refine w_getR ta_173 rfl rfl ?_
      refine w_bipush ta_173 rfl ?_
      refine w_iload_n ta_173 rfl rfl ?_
      refine w_iadd ta_173 rfl ?_
      refine w_iload_n ta_173 rfl rfl ?_
      refine w_iastore ta_173 rfl rfl (by omega) (by omega) (by omega) ?_
      refine w_iload_n ta_173 rfl rfl ?_
      refine w_iret ta_173 rfl (Or.inl rfl) ?_
      exact ⟨_, rfl, Or.inr ⟨by omega, rfl, rfl⟩⟩
    · refine w_iconst ta_173 rfl ?_
      refine w_iret ta_173 rfl (Or.inl rfl) ?_
      exact ⟨_, rfl, Or.inl ⟨by omega, rfl, rfl⟩⟩
set_option maxHeartbeats 4000000 in
set_option maxRecDepth 20000 in
theorem cm_leastOf (D : Nat) (M : Mem) (x : Int) (hx : inR x) : CI D 116 [.inl x] M (fun v M' => v = (if x = 1 then 2 else if x = 3 then 1 else 0) ∧ M' = M) := by
  refine mk_C mt_116 rfl (Nat.le_of_ble_eq_true rfl) (L := [some _]) rfl ?_
  obtain ⟨x0, x1⟩ := id hx
  refine w_iload_n ta_116 rfl rfl ?_
  refine w_iconst ta_116 rfl ?_
  refine w_icmp_ne ta_116 rfl ⟨by omega, by omega⟩ ⟨by omega, by omega⟩ (fun h2 => ?_) (fun h2 => ?_)
  · refine w_iload_n ta_116 rfl rfl ?_
    refine w_iconst ta_116 rfl ?_
    refine w_icmp_ne ta_116 rfl ⟨by omega, by omega⟩ ⟨by omega, by omega⟩ (fun h11 => ?_) (fun h11 => ?_)
    · refine w_iconst ta_116 rfl ?_
      refine w_iret ta_116 rfl (Or.inl rfl) ?_
      refine ⟨_, rfl, ?_, rfl⟩
      first
        | rw [if_pos (by omega)]
        | rw [if_neg (by omega), if_pos (by omega)]
        | rw [if_neg (by omega), if_neg (by omega)]
    · refine w_iconst ta_116 rfl ?_
      refine w_goto ta_116 rfl ?_
      refine w_iret ta_116 rfl (Or.inl rfl) ?_
      refine ⟨_, rfl, ?_, rfl⟩
      first
        | rw [if_pos (by omega)]
        | rw [if_neg (by omega), if_pos (by omega)]
        | rw [if_neg (by omega), if_neg (by omega)]
  · refine w_iconst ta_116 rfl ?_
    refine w_goto ta_116 rfl ?_
    refine w_iret ta_116 rfl (Or.inl rfl) ?_
    refine ⟨_, rfl, ?_, rfl⟩
    first
      | rw [if_pos (by omega)]
      | rw [if_neg (by omega), if_pos (by omega)]
      | rw [if_neg (by omega), if_neg (by omega)]
set_option maxHeartbeats 4000000 in
set_option maxRecDepth 20000 in
theorem cm_mostOf (D : Nat) (M : Mem) (x : Int) (hx : inR x) : CI D 117 [.inl x] M (fun v M' => v = (if x = 1 then 5 else if x = 2 then 999 else 99) ∧ M' = M) := by
  refine mk_C mt_117 rfl (Nat.le_of_ble_eq_true rfl) (L := [some _]) rfl ?_
  obtain ⟨x0, x1⟩ := id hx
  refine w_iload_n ta_117 rfl rfl ?_
  refine w_iconst ta_117 rfl ?_
  refine w_icmp_ne ta_117 rfl ⟨by omega, by omega⟩ ⟨by omega, by omega⟩ (fun h2 => ?_) (fun h2 => ?_)
  · refine w_iload_n ta_117 rfl rfl ?_
    refine w_iconst ta_117 rfl ?_
    refine w_icmp_ne ta_117 rfl ⟨by omega, by omega⟩ ⟨by omega, by omega⟩ (fun h11 => ?_) (fun h11 => ?_)
    · refine w_bipush ta_117 rfl ?_
      refine w_iret ta_117 rfl (Or.inl rfl) ?_
      refine ⟨_, rfl, ?_, rfl⟩
      first
        | rw [if_pos (by omega)]
        | rw [if_neg (by omega), if_pos (by omega)]
        | rw [if_neg (by omega), if_neg (by omega)]
    · refine w_sipush ta_117 rfl ?_
      refine w_goto ta_117 rfl ?_
      refine w_iret ta_117 rfl (Or.inl rfl) ?_
      refine ⟨_, rfl, ?_, rfl⟩
      first
        | rw [if_pos (by omega)]
        | rw [if_neg (by omega), if_pos (by omega)]
        | rw [if_neg (by omega), if_neg (by omega)]
  · refine w_iconst ta_117 rfl ?_
    refine w_goto ta_117 rfl ?_
    refine w_iret ta_117 rfl (Or.inl rfl) ?_
    refine ⟨_, rfl, ?_, rfl⟩
    first
      | rw [if_pos (by omega)]
      | rw [if_neg (by omega), if_pos (by omega)]
      | rw [if_neg (by omega), if_neg (by omega)]
set_option maxHeartbeats 4000000 in
set_option maxRecDepth 20000 in
theorem cm_rate (D : Nat) (M : Mem) (hI : MdI M) (x w : Int) (hx : inR x) (hw : inR w) : CI (D + 1) 174 [.inr (.inr 80), .inl x, .inl w] M (fun v M' => (¬ raB x w ∧ v = -1 ∧ M' = M) ∨ (raB x w ∧ v = M 81 (2 + x) ∧ M' = wr M 81 (2 + x) w)) := by
  refine mk_C mt_174 rfl (Nat.le_of_ble_eq_true rfl) (L := [some _, some _, some _, none]) rfl ?_
  obtain ⟨n0, n1, k0, k1, f0, f1, r0, r1, s0, s1, hA⟩ := id hI
  obtain ⟨x0, x1⟩ := id hx
  obtain ⟨w0, w1⟩ := id hw
  refine w_iload_n ta_174 rfl rfl ?_
  refine w_i2l ta_174 rfl ⟨by omega, by omega⟩ ?_
  refine w_lconst ta_174 rfl ?_
  refine w_ldc2_w ta_174 rfl ?_
  refine w_cI [_, _, _] _ ta_174 rfl rfl rfl mt_106 rfl rfl rfl rfl (Nat.le_of_ble_eq_true rfl) (fun q => by cases q) rfl (cm_in _ x 0 2 M (by constructor <;> omega) (by constructor <;> omega) (by constructor <;> omega)) ?_
  rintro v M2 ⟨hv, rfl⟩
  refine w_if_eq ta_174 rfl ⟨by omega, by omega⟩ (fun h9 => ?_) (fun h9 => ?_)
  · refine w_iconst ta_174 rfl ?_
    refine w_iret ta_174 rfl (Or.inl rfl) ?_
    first
      | exact ⟨_, rfl, Or.inl ⟨fun q => by have := rb.mp q; omega, rfl, rfl⟩⟩
      | exact ⟨_, rfl, Or.inl ⟨fun q => by unfold raB at q; omega, rfl, rfl⟩⟩
  · refine w_iload_n ta_174 rfl rfl ?_
    refine w_i2l ta_174 rfl ⟨by omega, by omega⟩ ?_
    refine w_iconst ta_174 rfl ?_
    refine w_iload_n ta_174 rfl rfl ?_
    refine w_iadd ta_174 rfl ?_
    refine w_cI [_] _ ta_174 rfl rfl rfl mt_116 rfl rfl rfl rfl (Nat.le_of_ble_eq_true rfl) (fun q => by cases q) rfl (cm_leastOf _ M2 (2 + x) (by constructor <;> omega)) ?_
    rintro v2 M3 ⟨hv2, rfl⟩
    have b2 : 0 ≤ v2 ∧ v2 ≤ 2 := by rw [hv2]; split <;> (try split) <;> omega
    refine w_i2l ta_174 rfl ⟨by omega, by omega⟩ ?_
    refine w_iconst ta_174 rfl ?_
    refine w_iload_n ta_174 rfl rfl ?_
    refine w_iadd ta_174 rfl ?_
    refine w_cI [_] _ ta_174 rfl rfl rfl mt_117 rfl rfl rfl rfl (Nat.le_of_ble_eq_true rfl) (fun q => by cases q) rfl (cm_mostOf _ M3 (2 + x) (by constructor <;> omega)) ?_
    rintro v3 M4 ⟨hv3, rfl⟩
    have b3 : 0 ≤ v3 ∧ v3 ≤ 999 := by rw [hv3]; split <;> (try split) <;> omega
    refine w_i2l ta_174 rfl ⟨by omega, by omega⟩ ?_
    refine w_cI [_, _, _] _ ta_174 rfl rfl rfl mt_106 rfl rfl rfl rfl (Nat.le_of_ble_eq_true rfl) (fun q => by cases q) rfl (cm_in _ w v2 v3 M4 (by constructor <;> omega) (by constructor <;> omega) (by constructor <;> omega)) ?_
    rintro v4 M5 ⟨hv4, rfl⟩
    have rb : raB x w ↔ v2 ≤ w ∧ w ≤ v3 := by
      unfold raB
      rcases (show x = 0 ∨ x = 1 ∨ x = 2 by omega) with rfl | rfl | rfl
      · have : v2 = 0 := hv2
        have : v3 = 999 := hv3
        omega
      · have : v2 = 1 := hv2
        have : v3 = 99 := hv3
        omega
      · have : v2 = 0 := hv2
        have : v3 = 99 := hv3
        omega
    refine w_if_ne ta_174 rfl ⟨by omega, by omega⟩ (fun h31 => ?_) (fun h31 => ?_)
    · refine w_aload_n ta_174 rfl rfl ?_
      refine w_getR ta_174 rfl rfl ?_
      refine w_iconst ta_174 rfl ?_
      refine w_iload_n ta_174 rfl rfl ?_
      refine w_iadd ta_174 rfl ?_
      refine w_iaload ta_174 rfl rfl (by omega) (by omega) (by omega) ?_
      refine w_istn_3_4 ta_174 rfl rfl ?_
      refine w_aload_n ta_174 rfl rfl ?_
      refine w_getR ta_174 rfl rfl ?_
      refine w_iconst ta_174 rfl ?_
      refine w_iload_n ta_174 rfl rfl ?_
      refine w_iadd ta_174 rfl ?_
      refine w_iload_n ta_174 rfl rfl ?_
      refine w_iastore ta_174 rfl rfl (by omega) (by omega) (by omega) ?_
      refine w_iload_n ta_174 rfl rfl ?_
      refine w_iret ta_174 rfl (Or.inl rfl) ?_
      exact ⟨_, rfl, Or.inr ⟨rb.mpr (by omega), rfl, rfl⟩⟩
    · refine w_iconst ta_174 rfl ?_
      refine w_iret ta_174 rfl (Or.inl rfl) ?_
      first
        | exact ⟨_, rfl, Or.inl ⟨fun q => by have := rb.mp q; omega, rfl, rfl⟩⟩
        | exact ⟨_, rfl, Or.inl ⟨fun q => by unfold raB at q; omega, rfl, rfl⟩⟩
def fiF (f : Int → Int) (i : Int) : Int → Int := fun z => if 21 ≤ z ∧ z < 21 + i then f (z - 16) else f z
theorem fiF_0 (f : Int → Int) : fiF f 0 = f := by funext z; exact if_neg (by omega)
theorem fiF_s (f : Int → Int) {i : Int} (h : 0 ≤ i) (h1 : i < 16) : upI (fiF f i) (21 + i) (fiF f i (5 + i)) = fiF f (i + 1) := by
  have e : fiF f i (5 + i) = f (5 + i) := if_neg (by omega)
  rw [e]
  funext z
  unfold upI fiF
  by_cases a : z = 21 + i
  · subst a; rw [if_pos rfl, if_pos (by omega), show 21 + i - 16 = 5 + i by omega]
  · rw [if_neg a]
    by_cases b : 21 ≤ z ∧ z < 21 + i
    · rw [if_pos b, if_pos (by omega)]
    · rw [if_neg b, if_neg (by omega)]
set_option maxHeartbeats 4000000 in
set_option maxRecDepth 20000 in
theorem lm_fill (D : Nat) (M : Mem) (hI : MdI M) (w : Int) : ∀ i : Int, 0 ≤ i → i ≤ M 81 0 → Wp (D + 1) 180 (15, [some (.inr (.inr 80)), some (.inl w), some (.inl i)], [], setC M 81 (fiF (M 81) i)) (fun r M' => ∃ v, r = some (.inl v) ∧ (v = w ∧ M' = setC M 81 (fiF (M 81) (M 81 0)))) := by
  obtain ⟨n0, n1, k0, k1, f0, f1, r0, r1, s0, s1, hA⟩ := id hI
  refine loopZ (M 81 0) ?_
  intro i h0 h1 ih
  refine w_iload_n ta_180 rfl rfl ?_
  refine w_aload_n ta_180 rfl rfl ?_
  refine w_getR ta_180 rfl rfl ?_
  refine w_iconst ta_180 rfl ?_
  refine w_ialoadv (v := M 81 0) ta_180 rfl rfl (by decide) (by decide) (by omega) (by rw [sc_s]; exact if_neg (by omega)) ?_
  refine w_icmp_ge ta_180 rfl ⟨by omega, by omega⟩ ⟨by omega, by omega⟩ (fun h22 => ?_) (fun h22 => ?_)
  · refine w_iload_n ta_180 rfl rfl ?_
    refine w_iret ta_180 rfl (Or.inl rfl) ?_
    exact ⟨_, rfl, rfl, by rw [show i = M 81 0 by omega]⟩
  · refine w_aload_n ta_180 rfl rfl ?_
    refine w_getR ta_180 rfl rfl ?_
    refine w_bipush ta_180 rfl ?_
    refine w_iload_n ta_180 rfl rfl ?_
    refine w_iadd ta_180 rfl ?_
    refine w_aload_n ta_180 rfl rfl ?_
    refine w_getR ta_180 rfl rfl ?_
    refine w_iconst ta_180 rfl ?_
    refine w_iload_n ta_180 rfl rfl ?_
    refine w_iadd ta_180 rfl ?_
    refine w_ialoadv (v := fiF (M 81) i (5 + i)) ta_180 rfl rfl (by omega) (by omega) (by omega) (by rw [sc_s]) ?_
    refine w_iastore ta_180 rfl rfl (by omega) (by omega) (by omega) ?_
    refine w_iinc_2_3 ta_180 rfl rfl ?_
    refine w_goto ta_180 rfl ?_
    rw [wr_sc, fiF_s _ h0 (by omega)]
    exact ih h22
set_option maxHeartbeats 4000000 in
set_option maxRecDepth 20000 in
theorem cm_fill (D : Nat) (M : Mem) (hI : MdI M) : CI (D + 1) 180 [.inr (.inr 80)] M (fun v M' => v = sumZ (mC M) (M 81 0) - sumZ (mH M) (M 81 0) ∧ M' = setC M 81 (fiF (M 81) (M 81 0))) := by
  refine mk_C mt_180 rfl (Nat.le_of_ble_eq_true rfl) (L := [some _, none, none]) rfl ?_
  obtain ⟨n0, n1, k0, k1, f0, f1, r0, r1, s0, s1, hA⟩ := id hI
  refine w_aload_n ta_180 rfl rfl ?_
  refine w_iconst ta_180 rfl ?_
  refine w_cI [_, _] _ ta_180 rfl rfl rfl mt_131 rfl rfl rfl rfl (Nat.le_of_ble_eq_true rfl) (fun _ => rfl) rfl (cm_all _ M hI 5 (by omega) (by omega)) ?_
  rintro v M2 ⟨rfl, rfl⟩
  refine w_aload_n ta_180 rfl rfl ?_
  refine w_bipush ta_180 rfl ?_
  refine w_cI [_, _] _ ta_180 rfl rfl rfl mt_131 rfl rfl rfl rfl (Nat.le_of_ble_eq_true rfl) (fun _ => rfl) rfl (cm_all _ M2 hI 21 (by omega) (by omega)) ?_
  rintro v M3 ⟨rfl, rfl⟩
  refine w_isub ta_180 rfl ?_
  refine w_istn_1_3 ta_180 rfl rfl ?_
  refine w_iconst ta_180 rfl ?_
  refine w_istn_2_3 ta_180 rfl rfl ?_
  have q := lm_fill D M3 hI (sumZ (mC M3) (M3 81 0) - sumZ (mH M3) (M3 81 0)) 0 (by omega) n0
  rw [fiF_0, sc_id] at q
  exact q
def dM (seed : Int) (M : Mem) : Nat → Mem → Prop
  | 0, N => ∀ c, c ≠ 88 → N c = M c
  | m + 1, N => ∃ N1, dM seed M m N1 ∧ MdI N1 ∧ N1 81 0 < 16 ∧ CmP (drV seed m) N1 N
set_option maxHeartbeats 4000000 in
set_option maxRecDepth 20000 in
theorem lm_draw (D : Nat) (M : Mem) (hI : MdI M) (seed x : Int) (x0 : 1 ≤ x) (x1 : x ≤ 16) : ∀ i : Int, 0 ≤ i → i ≤ x → ∀ N, MdI N → N 81 0 = M 81 0 + i → dM seed M i.toNat N → Wp (D + 3) 181 (19, [some (.inr (.inr 80)), some (.inl seed), some (.inl x), some (.inl (drS seed i.toNat)), some (.inl i)], [], N) (fun r M' => ∃ v, r = some (.inl v) ∧ (v = (if 16 - M 81 0 < x then 16 - M 81 0 else x) ∧ MdI M' ∧ dM seed M v.toNat M')) := by
  obtain ⟨n0, n1, k0, k1, f0, f1, r0, r1, s0, s1, hA⟩ := id hI
  refine loopZ x ?_
  intro i h0 h1 ih N hN hn hd
  have hNn := hN.2.1
  refine w_iload ta_181 rfl rfl ?_
  refine w_iload_n ta_181 rfl rfl ?_
  refine w_icmp_ge ta_181 rfl ⟨by omega, by omega⟩ ⟨by omega, by omega⟩ (fun h22 => ?_) (fun h22 => ?_)
  · refine w_iload ta_181 rfl rfl ?_
    refine w_iret ta_181 rfl (Or.inl rfl) ?_
    refine ⟨_, rfl, ?_, hN, hd⟩
    first
      | rw [if_pos (by omega)]; omega
      | rw [if_neg (by omega)]; omega
  · refine w_aload_n ta_181 rfl rfl ?_
    refine w_getR ta_181 rfl rfl ?_
    refine w_iconst ta_181 rfl ?_
    refine w_iaload ta_181 rfl rfl (by decide) (by decide) (by omega) ?_
    refine w_bipush ta_181 rfl ?_
    refine w_icmp_ge ta_181 rfl ⟨by omega, by omega⟩ ⟨by omega, by omega⟩ (fun h33 => ?_) (fun h33 => ?_)
    · refine w_iload ta_181 rfl rfl ?_
      refine w_iret ta_181 rfl (Or.inl rfl) ?_
      refine ⟨_, rfl, ?_, hN, hd⟩
      first
        | rw [if_pos (by omega)]; omega
        | rw [if_neg (by omega)]; omega
    · refine w_iload_n ta_181 rfl rfl ?_
      refine w_ldc_w ta_181 rfl ?_
      refine w_imul ta_181 rfl ?_
      refine w_sipush ta_181 rfl ?_
      refine w_iadd ta_181 rfl ?_
      refine w_istn_3_5 ta_181 rfl rfl ?_
      refine w_aload_n ta_181 rfl rfl ?_
      refine w_iload_n ta_181 rfl rfl ?_
      refine w_bipush ta_181 rfl ?_
      refine w_ishr ta_181 rfl (by omega) (by omega) ?_
      refine w_sipush ta_181 rfl ?_
      refine w_iand ta_181 rfl ?_
      rw [dr_s]
      refine w_sipush ta_181 rfl ?_
      refine w_irem ta_181 rfl (by omega) (by omega) (by omega) (by omega) ?_
      refine w_bipush ta_181 rfl ?_
      refine w_iadd ta_181 rfl ?_
      have vb := drV_b seed i.toNat
      have ev : drV seed i.toNat = (drS seed i.toNat * 1103515245 + 12345) / 65536 % 32768 % 200 + 50 := rfl
      refine w_cV [_, _] _ ta_181 rfl rfl rfl mt_170 rfl rfl rfl rfl (Nat.le_of_ble_eq_true rfl) (fun _ => rfl) rfl (cm_comes _ N hN (drV seed i.toNat) (by omega)) ?_
      rintro N2 hP
      have hI2 := hP.I hN (by omega) (by omega) (by omega)
      have ih := ih h22 N2 hI2 (by rw [hP.2, cmF_0]; omega)
      refine w_iinc_4_5 ta_181 rfl rfl ?_
      refine w_goto ta_181 rfl ?_
      rw [show (i + 1).toNat = i.toNat + 1 by omega] at ih
      exact ih ⟨N, hd, hN, by omega, hP⟩
set_option maxHeartbeats 4000000 in
set_option maxRecDepth 20000 in
theorem cm_draw (D : Nat) (M : Mem) (hI : MdI M) (seed x : Int) (hx : inR x) : CI (D + 3) 181 [.inr (.inr 80), .inl seed, .inl x] M (fun v M' => (¬ (1 ≤ x ∧ x ≤ 16) ∧ v = -1 ∧ M' = M) ∨ ((1 ≤ x ∧ x ≤ 16) ∧ v = (if 16 - M 81 0 < x then 16 - M 81 0 else x) ∧ MdI M' ∧ dM seed M v.toNat M')) := by
  refine mk_C mt_181 rfl (Nat.le_of_ble_eq_true rfl) (L := [some _, some _, some _, none, none]) rfl ?_
  obtain ⟨n0, n1, k0, k1, f0, f1, r0, r1, s0, s1, hA⟩ := id hI
  obtain ⟨x0, x1⟩ := id hx
  refine w_iload_n ta_181 rfl rfl ?_
  refine w_i2l ta_181 rfl ⟨by omega, by omega⟩ ?_
  refine w_lconst ta_181 rfl ?_
  refine w_ldc2_w ta_181 rfl ?_
  refine w_cI [_, _, _] _ ta_181 rfl rfl rfl mt_106 rfl rfl rfl rfl (Nat.le_of_ble_eq_true rfl) (fun q => by cases q) rfl (cm_in _ x 1 16 M (by constructor <;> omega) (by constructor <;> omega) (by constructor <;> omega)) ?_
  rintro v M2 ⟨hv, rfl⟩
  refine w_if_ne ta_181 rfl ⟨by omega, by omega⟩ (fun h9 => ?_) (fun h9 => ?_)
  · refine w_iload_n ta_181 rfl rfl ?_
    refine w_istn_3_5 ta_181 rfl rfl ?_
    refine w_iconst ta_181 rfl ?_
    refine w_ist_4_5 ta_181 rfl rfl ?_
    refine (lm_draw D M2 hI seed x (by omega) (by omega) 0 (by omega) (by omega) M2 hI (by omega) (fun _ _ => rfl)).imp ?_
    rintro r M3 ⟨w, hr, hw, hJ, hd⟩
    exact ⟨w, hr, Or.inr ⟨by omega, hw, hJ, hd⟩⟩
  · refine w_iconst ta_181 rfl ?_
    refine w_iret ta_181 rfl (Or.inl rfl) ?_
    exact ⟨_, rfl, Or.inl ⟨by omega, rfl, rfl⟩⟩
