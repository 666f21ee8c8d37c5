/-! the class reads tokens -/
def TpI (N : Mem) : Prop := 0 ≤ N 1 1 ∧ N 1 1 ≤ 160 ∧ ∀ i, 0 ≤ i → i < 160 → 0 ≤ N 2 i ∧ N 2 i ≤ 127
theorem TpI.of {N Z : Mem} (h : TpI N) (e1 : Z 1 = N 1) (e2 : Z 2 = N 2) : TpI Z := by
  unfold TpI
  rw [e1, e2]
  exact h
theorem up_up (f : Int → Int) (i v w : Int) : upI (upI f i v) i w = upI f i w := by
  funext j
  unfold upI
  split <;> rfl
theorem wr_wr (N : Mem) (c : Nat) (i v w : Int) : wr (wr N c i v) c i w = wr N c i w := by
  show setC (setC N c (upI (N c) i v)) c (upI (setC N c (upI (N c) i v) c) i w) = _
  rw [sc_s, sc_sc, up_up]
  rfl
theorem wr_id (N : Mem) (c : Nat) (i : Int) : wr N c i (N c i) = N := by
  show setC N c (upI (N c) i (N c i)) = N
  have e : upI (N c) i (N c i) = N c := by
    funext j
    unfold upI
    split
    · rename_i e; rw [e]
    · rfl
  rw [e, sc_id]
set_option maxHeartbeats 4000000 in
set_option maxRecDepth 20000 in
theorem c_byteAtC (D : Nat) (N : Mem) (hT : TpI N) (p : Int) (p0 : 0 ≤ p) (p1 : p < N 1 1) : CI D 37 [.inr (.inr 1), .inl p] N (fun v M' => v = N 2 p ∧ M' = N) := by
  refine mk_C mt_37 rfl (Nat.le_of_ble_eq_true rfl) (L := [some _, some _]) rfl ?_
  obtain ⟨l0, l1, hb⟩ := id hT
  refine w_iload_n ta_37 rfl rfl ?_
  refine w_if_lt ta_37 rfl ⟨by omega, by omega⟩ (fun h1 => ?_) (fun h1 => ?_)
  · exfalso; omega
  · refine w_iload_n ta_37 rfl rfl ?_
    refine w_aload_n ta_37 rfl rfl ?_
    refine w_getI 1 ta_37 rfl rfl rfl ?_
    refine w_icmp_ge ta_37 rfl ⟨by omega, by omega⟩ ⟨by omega, by omega⟩ (fun h9 => ?_) (fun h9 => ?_)
    · exfalso; omega
    · refine w_aload_n ta_37 rfl rfl ?_
      refine w_getR ta_37 rfl rfl ?_
      refine w_iload_n ta_37 rfl rfl ?_
      refine w_baload ta_37 rfl rfl (by omega) (by omega) (by omega) ?_
      refine w_goto ta_37 rfl ?_
      refine w_iret ta_37 rfl (Or.inl rfl) ?_
      exact ⟨_, rfl, rfl, rfl⟩
set_option maxHeartbeats 4000000 in
set_option maxRecDepth 20000 in
theorem c_failC (D : Nat) (N : Mem) (x : Int) : CI D 51 [.inr (.inr 23), .inl x] N (fun v M' => v = 0 ∧ M' = wr (wr N 23 2 x) 23 3 (N 23 5)) := by
  refine mk_C mt_51 rfl (Nat.le_of_ble_eq_true rfl) (L := [some _, some _]) rfl ?_
  refine w_aload_n ta_51 rfl rfl ?_
  refine w_iload_n ta_51 rfl rfl ?_
  refine w_putI 2 ta_51 rfl rfl rfl ?_
  refine w_aload_n ta_51 rfl rfl ?_
  refine w_aload_n ta_51 rfl rfl ?_
  refine w_getIv 5 (v := N 23 5) ta_51 rfl rfl rfl rfl ?_
  refine w_putI 3 ta_51 rfl rfl rfl ?_
  refine w_iconst ta_51 rfl ?_
  refine w_iret ta_51 rfl (Or.inr ⟨rfl, by omega⟩) ?_
  exact ⟨_, rfl, rfl, rfl⟩
set_option maxHeartbeats 4000000 in
set_option maxRecDepth 20000 in
theorem lp_passRun (D : Nat) (N : Mem) (hT : TpI N) (lo hi : Int) (hlo : inR lo) (hhi : inR hi) : ∀ (d : Nat) (q : Int), N 1 1 - q ≤ d → 0 ≤ q → q ≤ N 1 1 → Wp (D + 1) 49 (0, [some (.inr (.inr 23)), some (.inl lo), some (.inl hi)], [], wr N 23 6 q) (fun r M' => r = none ∧ M' = wr N 23 6 (rnZ (inB (N 2) lo hi) (N 1 1) q)) := by
  obtain ⟨l0, l1, hb⟩ := id hT
  intro d
  induction d with
  | zero =>
    intro q hd q0 q1
    refine w_aload_n ta_49 rfl rfl ?_
    refine w_getIv 6 (v := q) ta_49 rfl rfl rfl (by rw [wr_s, up_s]) ?_
    refine w_aload_n ta_49 rfl rfl ?_
    refine w_getR ta_49 rfl rfl ?_
    refine w_getIv 1 (v := N 1 1) ta_49 rfl rfl rfl (by rw [wr_n _ _ _ (by decide)]) ?_
    refine w_icmp_ge ta_49 rfl ⟨by omega, by omega⟩ ⟨by omega, by omega⟩ (fun h11 => ?_) (fun h11 => ?_)
    · rw [rnZ_f (by omega)]
      refine w_vret ta_49 rfl ?_
      exact ⟨rfl, rfl⟩
    · exfalso; omega
  | succ d ih =>
    intro q hd q0 q1
    refine w_aload_n ta_49 rfl rfl ?_
    refine w_getIv 6 (v := q) ta_49 rfl rfl rfl (by rw [wr_s, up_s]) ?_
    refine w_aload_n ta_49 rfl rfl ?_
    refine w_getR ta_49 rfl rfl ?_
    refine w_getIv 1 (v := N 1 1) ta_49 rfl rfl rfl (by rw [wr_n _ _ _ (by decide)]) ?_
    refine w_icmp_ge ta_49 rfl ⟨by omega, by omega⟩ ⟨by omega, by omega⟩ (fun h11 => ?_) (fun h11 => ?_)
    · rw [rnZ_f (by omega)]
      refine w_vret ta_49 rfl ?_
      exact ⟨rfl, rfl⟩
    · refine w_aload_n ta_49 rfl rfl ?_
      refine w_getR ta_49 rfl rfl ?_
      refine w_aload_n ta_49 rfl rfl ?_
      refine w_getIv 6 (v := q) ta_49 rfl rfl rfl (by rw [wr_s, up_s]) ?_
      refine w_cI [_, _] _ ta_49 rfl rfl rfl mt_37 rfl rfl rfl rfl (Nat.le_of_ble_eq_true rfl) (fun _ => rfl) rfl (c_byteAtC _ _ (hT.of (wr_n _ _ _ (by decide)) (wr_n _ _ _ (by decide))) q q0 (by rw [wr_n _ _ _ (by decide)]; exact h11)) ?_
      rintro v Z ⟨hv, rfl⟩
      rw [wr_n _ _ _ (by decide)] at hv
      have vb := hb q q0 (by omega)
      refine w_iload_n ta_49 rfl rfl ?_
      refine w_iload_n ta_49 rfl rfl ?_
      refine w_cI [_, _, _] _ ta_49 rfl rfl rfl mt_89 rfl rfl rfl rfl (Nat.le_of_ble_eq_true rfl) (fun q => by cases q) rfl (c_win _ v lo hi _ (by constructor <;> omega) hlo hhi) ?_
      rintro w Z ⟨hw, rfl⟩
      refine w_if_eq ta_49 rfl ⟨by omega, by omega⟩ (fun h30 => ?_) (fun h30 => ?_)
      · rw [rnZ_f (fun z => by have := inB_t.mp z.2; omega)]
        refine w_vret ta_49 rfl ?_
        exact ⟨rfl, rfl⟩
      · have hin : inB (N 2) lo hi q = true := inB_t.mpr (by omega)
        rw [rnZ_t h11 hin]
        refine w_aload_n ta_49 rfl rfl ?_
        refine w_dup ta_49 rfl rfl ?_
        refine w_getIv 6 (v := q) ta_49 rfl rfl rfl (by rw [wr_s, up_s]) ?_
        refine w_iconst ta_49 rfl ?_
        refine w_iadd ta_49 rfl ?_
        refine w_putI 6 ta_49 rfl rfl rfl ?_
        refine w_goto ta_49 rfl ?_
        rw [wr_wr]
        exact ih (q + 1) (by omega) (by omega) (by omega)
set_option maxHeartbeats 4000000 in
set_option maxRecDepth 20000 in
theorem c_passRun (D : Nat) (N : Mem) (hT : TpI N) (lo hi : Int) (hlo : inR lo) (hhi : inR hi) (q0 : 0 ≤ N 23 6) (q1 : N 23 6 ≤ N 1 1) : CV (D + 1) 49 [.inr (.inr 23), .inl lo, .inl hi] N (fun M' => M' = wr N 23 6 (rnZ (inB (N 2) lo hi) (N 1 1) (N 23 6))) := by
  refine mk_C mt_49 rfl (Nat.le_of_ble_eq_true rfl) (L := [some _, some _, some _]) rfl ?_
  have q := lp_passRun D N hT lo hi hlo hhi (N 1 1 - N 23 6).toNat (N 23 6) (by omega) q0 q1
  rw [wr_id] at q
  exact q
set_option maxHeartbeats 4000000 in
set_option maxRecDepth 20000 in
theorem lp_takeValue (D : Nat) (N : Mem) (hT : TpI N) (s e : Int) (s0 : 0 ≤ s) (se : s ≤ e) (e1 : e ≤ N 1 1) (h5 : N 23 5 = s) (h6 : N 23 6 = e) (hd : ∀ j, s ≤ j → j < e → 48 ≤ N 2 j ∧ N 2 j ≤ 57) (e3 : e - s ≤ 3) : ∀ q : Int, s ≤ q → q ≤ e → Wp (D + 1) 50 (29, [some (.inr (.inr 23)), some (.inl q)], [], wr N 23 7 (vd (N 2) s q)) (fun r M' => ∃ v, r = some (.inl v) ∧ (v = 1 ∧ M' = wr N 23 7 (vd (N 2) s e))) := by
  obtain ⟨l0, l1, hb⟩ := id hT
  refine loopO s e ?_
  intro q h0 h1 ih
  refine w_iload_n ta_50 rfl rfl ?_
  refine w_aload_n ta_50 rfl rfl ?_
  refine w_getIv 6 (v := e) ta_50 rfl rfl rfl (by rw [wr_s, up_n _ _ (by decide)]; exact h6) ?_
  refine w_icmp_ge ta_50 rfl ⟨by omega, by omega⟩ ⟨by omega, by omega⟩ (fun h34 => ?_) (fun h34 => ?_)
  · refine w_iconst ta_50 rfl ?_
    refine w_iret ta_50 rfl (Or.inr ⟨rfl, by omega⟩) ?_
    exact ⟨_, rfl, rfl, by rw [show q = e by omega]⟩
  · refine w_aload_n ta_50 rfl rfl ?_
    refine w_bipush ta_50 rfl ?_
    refine w_aload_n ta_50 rfl rfl ?_
    refine w_getIv 7 (v := vd (N 2) s q) ta_50 rfl rfl rfl (by rw [wr_s, up_s]) ?_
    refine w_imul ta_50 rfl ?_
    refine w_aload_n ta_50 rfl rfl ?_
    refine w_getR ta_50 rfl rfl ?_
    refine w_iload_n ta_50 rfl rfl ?_
    refine w_cI [_, _] _ ta_50 rfl rfl rfl mt_37 rfl rfl rfl rfl (Nat.le_of_ble_eq_true rfl) (fun _ => rfl) rfl (c_byteAtC _ _ (hT.of (wr_n _ _ _ (by decide)) (wr_n _ _ _ (by decide))) q (by omega) (by rw [wr_n _ _ _ (by decide)]; omega)) ?_
    rintro v Z ⟨hv, rfl⟩
    rw [wr_n _ _ _ (by decide)] at hv
    rw [hv]
    refine w_iadd ta_50 rfl ?_
    refine w_bipush ta_50 rfl ?_
    refine w_isub ta_50 rfl ?_
    refine w_putI 7 ta_50 rfl rfl rfl ?_
    refine w_iinc_1_2 ta_50 rfl rfl ?_
    refine w_goto ta_50 rfl ?_
    rw [wr_wr, ← vd_s _ h0]
    exact ih h34
set_option maxHeartbeats 4000000 in
set_option maxRecDepth 20000 in
theorem c_takeValue (D : Nat) (N : Mem) (hT : TpI N) (s e : Int) (s0 : 0 ≤ s) (se : s ≤ e) (e1 : e ≤ N 1 1) (h5 : N 23 5 = s) (h6 : N 23 6 = e) (hd : ∀ j, s ≤ j → j < e → 48 ≤ N 2 j ∧ N 2 j ≤ 57) : CI (D + 1) 50 [.inr (.inr 23)] N (fun v M' => (3 < e - s ∧ v = 0 ∧ M' = wr (wr (wr N 23 7 0) 23 2 1) 23 3 s) ∨ (e - s ≤ 3 ∧ v = 1 ∧ M' = wr N 23 7 (vd (N 2) s e))) := by
  refine mk_C mt_50 rfl (Nat.le_of_ble_eq_true rfl) (L := [some _, none]) rfl ?_
  obtain ⟨l0, l1, hb⟩ := id hT
  refine w_aload_n ta_50 rfl rfl ?_
  refine w_iconst ta_50 rfl ?_
  refine w_putI 7 ta_50 rfl rfl rfl ?_
  refine w_aload_n ta_50 rfl rfl ?_
  refine w_getIv 6 (v := e) ta_50 rfl rfl rfl (by rw [wr_s, up_n _ _ (by decide)]; exact h6) ?_
  refine w_aload_n ta_50 rfl rfl ?_
  refine w_getIv 5 (v := s) ta_50 rfl rfl rfl (by rw [wr_s, up_n _ _ (by decide)]; exact h5) ?_
  refine w_isub ta_50 rfl ?_
  refine w_iconst ta_50 rfl ?_
  refine w_icmp_le ta_50 rfl ⟨by omega, by omega⟩ ⟨by omega, by omega⟩ (fun h15 => ?_) (fun h15 => ?_)
  · refine w_aload_n ta_50 rfl rfl ?_
    refine w_getIv 5 (v := s) ta_50 rfl rfl rfl (by rw [wr_s, up_n _ _ (by decide)]; exact h5) ?_
    refine w_istn_1_2 ta_50 rfl rfl ?_
    have q := lp_takeValue D N hT s e s0 se e1 h5 h6 hd (by omega) s (by omega) se
    rw [vd_0] at q
    refine q.imp ?_
    rintro r Z ⟨v, hr, hv, hZ⟩
    exact ⟨v, hr, Or.inr ⟨by omega, hv, hZ⟩⟩
  · refine w_aload_n ta_50 rfl rfl ?_
    refine w_iconst ta_50 rfl ?_
    refine w_cI [_, _] _ ta_50 rfl rfl rfl mt_51 rfl rfl rfl rfl (Nat.le_of_ble_eq_true rfl) (fun _ => rfl) rfl (c_failC _ _ 1) ?_
    rintro v Z ⟨hv, rfl⟩
    refine w_iret ta_50 rfl (Or.inr ⟨rfl, by omega⟩) ?_
    exact ⟨_, rfl, Or.inl ⟨by omega, hv, by rw [wr_s, up_n _ _ (by decide), h5]⟩⟩
/-- a token has been read -/
def NT (t : Int → Int) (L p : Int) (N M' : Mem) (v : Int) : Prop := (∀ c, c ≠ 23 → M' c = N c) ∧ M' 23 5 = tS t L p ∧ M' 23 8 = N 23 8 ∧ ((tK t L p = 4 ∧ v = 0 ∧ M' 23 2 = 1 ∧ M' 23 3 = tS t L p) ∨ (tK t L p ≠ 4 ∧ v = 1 ∧ M' 23 4 = tK t L p ∧ M' 23 6 = tN t L p ∧ M' 23 2 = N 23 2 ∧ (tK t L p = 1 → M' 23 7 = tV t L p)))
set_option maxHeartbeats 4000000 in
set_option maxRecDepth 20000 in
theorem lp_nextToken (D : Nat) (N : Mem) (hT : TpI N) (P : Option AV → Mem → Prop) : ∀ (d : Nat) (q : Int), N 1 1 - q ≤ d → 0 ≤ q → q ≤ N 1 1 → (∀ x : Unit, Wp (D + 2) 48 (51, [some (.inr (.inr 23)), none], [], wr N 23 5 (rnZ (spB (N 2)) (N 1 1) q)) P) → Wp (D + 2) 48 (8, [some (.inr (.inr 23)), none], [], wr N 23 5 q) P := by
  obtain ⟨l0, l1, hb⟩ := id hT
  intro d
  induction d with
  | zero =>
    intro q hd q0 q1 hP
    refine w_aload_n ta_48 rfl rfl ?_
    refine w_getIv 5 (v := q) ta_48 rfl rfl rfl (by rw [wr_s, up_s]) ?_
    refine w_aload_n ta_48 rfl rfl ?_
    refine w_getR ta_48 rfl rfl ?_
    refine w_getIv 1 (v := N 1 1) ta_48 rfl rfl rfl (by rw [wr_n _ _ _ (by decide)]) ?_
    refine w_icmp_ge ta_48 rfl ⟨by omega, by omega⟩ ⟨by omega, by omega⟩ (fun h19 => ?_) (fun h19 => ?_)
    · rw [rnZ_f (by omega)] at hP
      exact hP ()
    · exfalso; omega
  | succ d ih =>
    intro q hd q0 q1 hP
    refine w_aload_n ta_48 rfl rfl ?_
    refine w_getIv 5 (v := q) ta_48 rfl rfl rfl (by rw [wr_s, up_s]) ?_
    refine w_aload_n ta_48 rfl rfl ?_
    refine w_getR ta_48 rfl rfl ?_
    refine w_getIv 1 (v := N 1 1) ta_48 rfl rfl rfl (by rw [wr_n _ _ _ (by decide)]) ?_
    refine w_icmp_ge ta_48 rfl ⟨by omega, by omega⟩ ⟨by omega, by omega⟩ (fun h19 => ?_) (fun h19 => ?_)
    · rw [rnZ_f (by omega)] at hP
      exact hP ()
    · refine w_aload_n ta_48 rfl rfl ?_
      refine w_getR ta_48 rfl rfl ?_
      refine w_aload_n ta_48 rfl rfl ?_
      refine w_getIv 5 (v := q) ta_48 rfl rfl rfl (by rw [wr_s, up_s]) ?_
      refine w_cI [_, _] _ ta_48 rfl rfl rfl mt_37 rfl rfl rfl rfl (Nat.le_of_ble_eq_true rfl) (fun _ => rfl) rfl (c_byteAtC _ _ (hT.of (wr_n _ _ _ (by decide)) (wr_n _ _ _ (by decide))) q q0 (by rw [wr_n _ _ _ (by decide)]; exact h19)) ?_
      rintro v Z ⟨hv, rfl⟩
      rw [wr_n _ _ _ (by decide)] at hv
      have vb := hb q q0 (by omega)
      refine w_bipush ta_48 rfl ?_
      refine w_icmp_ne ta_48 rfl ⟨by omega, by omega⟩ ⟨by omega, by omega⟩ (fun h35 => ?_) (fun h35 => ?_)
      · rw [rnZ_f (fun z => h35 (by have := spB_t.mp z.2; omega))] at hP
        exact hP ()
      · have hin : spB (N 2) q = true := spB_t.mpr (by omega)
        rw [rnZ_t h19 hin] at hP
        refine w_aload_n ta_48 rfl rfl ?_
        refine w_dup ta_48 rfl rfl ?_
        refine w_getIv 5 (v := q) ta_48 rfl rfl rfl (by rw [wr_s, up_s]) ?_
        refine w_iconst ta_48 rfl ?_
        refine w_iadd ta_48 rfl ?_
        refine w_putI 5 ta_48 rfl rfl rfl ?_
        refine w_goto ta_48 rfl ?_
        rw [wr_wr]
        exact ih (q + 1) (by omega) (by omega) (by omega) hP
set_option maxHeartbeats 4000000 in
set_option maxRecDepth 20000 in
theorem c_nextToken (D : Nat) (N : Mem) (hT : TpI N) (q0 : 0 ≤ N 23 6) (q1 : N 23 6 ≤ N 1 1) : CI (D + 2) 48 [.inr (.inr 23)] N (fun v M' => NT (N 2) (N 1 1) (N 23 6) N M' v) := by
  refine mk_C mt_48 rfl (Nat.le_of_ble_eq_true rfl) (L := [some _, none]) rfl ?_
  obtain ⟨l0, l1, hb⟩ := id hT
  refine w_aload_n ta_48 rfl rfl ?_
  refine w_aload_n ta_48 rfl rfl ?_
  refine w_getIv 6 (v := N 23 6) ta_48 rfl rfl rfl rfl ?_
  refine w_putI 5 ta_48 rfl rfl rfl ?_
  refine lp_nextToken D N hT _ (N 1 1 - N 23 6).toNat (N 23 6) (by omega) q0 q1 (fun _ => ?_)
  have sb := tS_b (t := N 2) q1
  have esS : rnZ (spB (N 2)) (N 1 1) (N 23 6) = tS (N 2) (N 1 1) (N 23 6) := rfl
  have eK : tK (N 2) (N 1 1) (N 23 6) = kS (N 2) (N 1 1) (tS (N 2) (N 1 1) (N 23 6)) := rfl
  have eN : tN (N 2) (N 1 1) (N 23 6) = nS (N 2) (N 1 1) (tS (N 2) (N 1 1) (N 23 6)) := rfl
  have eV : tV (N 2) (N 1 1) (N 23 6) = vd (N 2) (tS (N 2) (N 1 1) (N 23 6)) (tN (N 2) (N 1 1) (N 23 6)) := rfl
  rw [esS]
  unfold NT
  rw [eV, eK, eN]
  clear eV eK eN esS
  generalize tS (N 2) (N 1 1) (N 23 6) = s at *
  generalize hY : wr N 23 5 s = Y
  have y1 : Y 1 = N 1 := by rw [← hY]; exact wr_n _ _ _ (by decide)
  have y2 : Y 2 = N 2 := by rw [← hY]; exact wr_n _ _ _ (by decide)
  have yc : ∀ c, c ≠ 23 → Y c = N c := fun c hc => by rw [← hY]; exact wr_n _ _ _ hc
  have y5 : Y 23 5 = s := by rw [← hY, wr_s, up_s]
  have yo : ∀ j, j ≠ 5 → Y 23 j = N 23 j := fun j hj => by rw [← hY, wr_s, up_n _ _ hj]
  clear hY
  have hTZ : ∀ Z : Mem, (∀ c, c ≠ 23 → Z c = Y c) → TpI Z := fun Z hZ => hT.of ((hZ 1 (by decide)).trans y1) ((hZ 2 (by decide)).trans y2)
  refine w_aload_n ta_48 rfl rfl ?_
  refine w_aload_n ta_48 rfl rfl ?_
  refine w_getIv 5 (v := s) ta_48 rfl rfl rfl y5 ?_
  refine w_putI 6 ta_48 rfl rfl rfl ?_
  refine w_aload_n ta_48 rfl rfl ?_
  refine w_getIv 5 (v := s) ta_48 rfl rfl rfl (by rw [wr_s, up_n _ _ (by decide)]; exact y5) ?_
  refine w_aload_n ta_48 rfl rfl ?_
  refine w_getR ta_48 rfl rfl ?_
  refine w_getIv 1 (v := N 1 1) ta_48 rfl rfl rfl (by rw [wr_n _ _ _ (by decide), y1]) ?_
  refine w_icmp_lt ta_48 rfl ⟨by omega, by omega⟩ ⟨by omega, by omega⟩ (fun h70 => ?_) (fun h70 => ?_)
  · have vb := hb s (by omega) (by omega)
    refine w_aload_n ta_48 rfl rfl ?_
    refine w_getR ta_48 rfl rfl ?_
    refine w_aload_n ta_48 rfl rfl ?_
    refine w_getIv 5 (v := s) ta_48 rfl rfl rfl (by rw [wr_s, up_n _ _ (by decide)]; exact y5) ?_
    refine w_cI [_, _] _ ta_48 rfl rfl rfl mt_37 rfl rfl rfl rfl (Nat.le_of_ble_eq_true rfl) (fun _ => rfl) rfl (c_byteAtC _ _ (hTZ _ (fun c hc => wr_n _ _ _ hc)) s (by omega) (by rw [wr_n _ _ _ (by decide), y1]; omega)) ?_
    rintro v Z ⟨hv, rfl⟩
    rw [wr_n _ _ _ (by decide), y2] at hv
    refine w_istn_1_2 ta_48 rfl rfl ?_
    refine w_iload_n ta_48 rfl rfl ?_
    refine w_bipush ta_48 rfl ?_
    refine w_icmp_ne ta_48 rfl ⟨by omega, by omega⟩ ⟨by omega, by omega⟩ (fun h95 => ?_) (fun h95 => ?_)
    · refine w_iload_n ta_48 rfl rfl ?_
      refine w_bipush ta_48 rfl ?_
      refine w_bipush ta_48 rfl ?_
      refine w_cI [_, _, _] _ ta_48 rfl rfl rfl mt_89 rfl rfl rfl rfl (Nat.le_of_ble_eq_true rfl) (fun q => by cases q) rfl (c_win _ v 97 122 _ (by constructor <;> omega) (by decide) (by decide)) ?_
      rintro w Z ⟨hw, rfl⟩
      refine w_if_eq ta_48 rfl ⟨by omega, by omega⟩ (fun h123 => ?_) (fun h123 => ?_)
      · refine w_iload_n ta_48 rfl rfl ?_
        refine w_bipush ta_48 rfl ?_
        refine w_bipush ta_48 rfl ?_
        refine w_cI [_, _, _] _ ta_48 rfl rfl rfl mt_89 rfl rfl rfl rfl (Nat.le_of_ble_eq_true rfl) (fun q => by cases q) rfl (c_win _ v 48 57 _ (by constructor <;> omega) (by decide) (by decide)) ?_
        rintro w2 Z ⟨hw2, rfl⟩
        refine w_if_eq ta_48 rfl ⟨by omega, by omega⟩ (fun h149 => ?_) (fun h149 => ?_)
        · refine w_aload_n ta_48 rfl rfl ?_
          refine w_iconst ta_48 rfl ?_
          refine w_cI [_, _] _ ta_48 rfl rfl rfl mt_51 rfl rfl rfl rfl (Nat.le_of_ble_eq_true rfl) (fun _ => rfl) rfl (c_failC _ _ 1) ?_
          rintro u Z ⟨hu, rfl⟩
          refine w_iret ta_48 rfl (Or.inr ⟨rfl, by omega⟩) ?_
          have k4 : kS (N 2) (N 1 1) s = 4 := by unfold kS; rw [if_neg (by omega), if_neg (by omega), if_neg (by omega), if_neg (by omega)]
          rw [k4]
          exact ⟨_, rfl, fun c hc => by simp only [wr_n _ _ _ hc]; exact yc c hc, by simp [wr_s, upI, y5], by simp [wr_s, upI, yo], Or.inl ⟨rfl, hu, by simp [wr_s, upI], by simp [wr_s, upI, y5]⟩⟩
        · refine w_aload_n ta_48 rfl rfl ?_
          refine w_iconst ta_48 rfl ?_
          refine w_putI 4 ta_48 rfl rfl rfl ?_
          refine w_aload_n ta_48 rfl rfl ?_
          refine w_bipush ta_48 rfl ?_
          refine w_bipush ta_48 rfl ?_
          refine w_cV [_, _, _] _ ta_48 rfl rfl rfl mt_49 rfl rfl rfl rfl (Nat.le_of_ble_eq_true rfl) (fun _ => rfl) rfl (c_passRun _ _ (hTZ _ (fun c hc => by rw [wr_n _ _ _ hc, wr_n _ _ _ hc])) 48 57 (by decide) (by decide) (by simp only [wr_s, upI]; simp; omega) (by simp only [wr_n _ _ _ (show (1 : Nat) ≠ 23 by decide), wr_s, upI]; simp [y1]; omega)) ?_
          rintro Z hZ
          rw [wr_n _ _ _ (by decide), wr_n _ _ _ (by decide), wr_n _ _ _ (by decide), wr_n _ _ _ (by decide), y1, y2, show wr (wr Y 23 6 s) 23 4 1 23 6 = s by simp [wr_s, upI]] at hZ
          have rb := rnZ_b (inB (N 2) 48 57) (N 1 1) s
          have z1 : Z 1 = N 1 := by rw [hZ]; simp only [wr_n _ _ _ (show (1 : Nat) ≠ 23 by decide)]; exact y1
          have z2 : Z 2 = N 2 := by rw [hZ]; simp only [wr_n _ _ _ (show (2 : Nat) ≠ 23 by decide)]; exact y2
          refine w_aload_n ta_48 rfl rfl ?_
          refine w_cI [_] _ ta_48 rfl rfl rfl mt_50 rfl rfl rfl rfl (Nat.le_of_ble_eq_true rfl) (fun _ => rfl) rfl (c_takeValue _ Z (hT.of z1 z2) s (rnZ (inB (N 2) 48 57) (N 1 1) s) (by omega) rb.1 (by rw [z1]; exact rb.2 (by omega)) (by rw [hZ]; simp [wr_s, upI, y5]) (by rw [hZ]; simp [wr_s, upI]) (fun j j0 j1 => by rw [z2]; exact inB_t.mp (rnZ_all j0 j1).2)) ?_
          rintro u Z2 hu
          rw [z2] at hu
          refine w_iret ta_48 rfl (Or.inr ⟨rfl, by rcases hu with q | q <;> omega⟩) ?_
          have n1 : nS (N 2) (N 1 1) s = rnZ (inB (N 2) 48 57) (N 1 1) s := by unfold nS; rw [if_neg (by omega), if_neg (by omega), if_neg (by omega)]
          rcases hu with ⟨g3, hu, hZ2⟩ | ⟨g3, hu, hZ2⟩
          · have k4 : kS (N 2) (N 1 1) s = 4 := by unfold kS; rw [if_neg (by omega), if_neg (by omega), if_neg (by omega), if_pos (by omega), if_pos (by omega)]
            rw [k4, n1, hZ2, hZ]
            exact ⟨_, rfl, fun c hc => by simp only [wr_n _ _ _ hc]; exact yc c hc, by simp [wr_s, upI, y5], by simp [wr_s, upI, yo], Or.inl ⟨rfl, hu, by simp [wr_s, upI], by simp [wr_s, upI]⟩⟩
          · have k1 : kS (N 2) (N 1 1) s = 1 := by unfold kS; rw [if_neg (by omega), if_neg (by omega), if_neg (by omega), if_pos (by omega), if_neg (by omega)]
            rw [k1, n1, hZ2, hZ]
            exact ⟨_, rfl, fun c hc => by simp only [wr_n _ _ _ hc]; exact yc c hc, by simp [wr_s, upI, y5], by simp [wr_s, upI, yo], Or.inr ⟨by decide, hu, by simp [wr_s, upI], by simp [wr_s, upI], by simp [wr_s, upI, yo], fun _ => by simp [wr_s, upI]⟩⟩
      · refine w_aload_n ta_48 rfl rfl ?_
        refine w_iconst ta_48 rfl ?_
        refine w_putI 4 ta_48 rfl rfl rfl ?_
        refine w_aload_n ta_48 rfl rfl ?_
        refine w_bipush ta_48 rfl ?_
        refine w_bipush ta_48 rfl ?_
        refine w_cV [_, _, _] _ ta_48 rfl rfl rfl mt_49 rfl rfl rfl rfl (Nat.le_of_ble_eq_true rfl) (fun _ => rfl) rfl (c_passRun _ _ (hTZ _ (fun c hc => by rw [wr_n _ _ _ hc, wr_n _ _ _ hc])) 97 122 (by decide) (by decide) (by simp only [wr_s, upI]; simp; omega) (by simp only [wr_n _ _ _ (show (1 : Nat) ≠ 23 by decide), wr_s, upI]; simp [y1]; omega)) ?_
        rintro Z hZ
        rw [wr_n _ _ _ (by decide), wr_n _ _ _ (by decide), wr_n _ _ _ (by decide), wr_n _ _ _ (by decide), y1, y2, show wr (wr Y 23 6 s) 23 4 0 23 6 = s by simp [wr_s, upI]] at hZ
        refine w_iconst ta_48 rfl ?_
        refine w_iret ta_48 rfl (Or.inr ⟨rfl, by omega⟩) ?_
        have k0 : kS (N 2) (N 1 1) s = 0 := by unfold kS; rw [if_neg (by omega), if_neg (by omega), if_pos (by omega)]
        have n0 : nS (N 2) (N 1 1) s = rnZ (inB (N 2) 97 122) (N 1 1) s := by unfold nS; rw [if_neg (by omega), if_neg (by omega), if_pos (by omega)]
        rw [k0, n0, hZ]
        refine ⟨_, rfl, fun c hc => by simp only [wr_n _ _ _ hc]; exact yc c hc, by simp [wr_s, upI, y5], by simp [wr_s, upI, yo], Or.inr ⟨by decide, rfl, by simp [wr_s, upI], by simp [wr_s, upI], by simp [wr_s, upI, yo], fun z => absurd z (by decide)⟩⟩
    · refine w_aload_n ta_48 rfl rfl ?_
      refine w_iconst ta_48 rfl ?_
      refine w_putI 4 ta_48 rfl rfl rfl ?_
      refine w_aload_n ta_48 rfl rfl ?_
      refine w_dup ta_48 rfl rfl ?_
      refine w_getIv 6 (v := s) ta_48 rfl rfl rfl (by simp [wr_s, upI]) ?_
      refine w_iconst ta_48 rfl ?_
      refine w_iadd ta_48 rfl ?_
      refine w_putI 6 ta_48 rfl rfl rfl ?_
      refine w_iconst ta_48 rfl ?_
      refine w_iret ta_48 rfl (Or.inr ⟨rfl, by omega⟩) ?_
      have k2 : kS (N 2) (N 1 1) s = 2 := by unfold kS; rw [if_neg (by omega), if_pos (by omega)]
      have n2 : nS (N 2) (N 1 1) s = s + 1 := by unfold nS; rw [if_neg (by omega), if_pos (by omega)]
      rw [k2, n2]
      refine ⟨_, rfl, fun c hc => by simp only [wr_n _ _ _ hc]; exact yc c hc, by simp [wr_s, upI, y5], by simp [wr_s, upI, yo], Or.inr ⟨by decide, rfl, by simp [wr_s, upI], by simp [wr_s, upI], by simp [wr_s, upI, yo], fun z => absurd z (by decide)⟩⟩
  · refine w_aload_n ta_48 rfl rfl ?_
    refine w_iconst ta_48 rfl ?_
    refine w_putI 4 ta_48 rfl rfl rfl ?_
    refine w_iconst ta_48 rfl ?_
    refine w_iret ta_48 rfl (Or.inr ⟨rfl, by omega⟩) ?_
    have k3 : kS (N 2) (N 1 1) s = 3 := if_pos (by omega)
    have n3 : nS (N 2) (N 1 1) s = s := if_pos (by omega)
    rw [k3, n3]
    refine ⟨_, rfl, fun c hc => by simp only [wr_n _ _ _ hc]; exact yc c hc, by simp [wr_s, upI, y5], by simp [wr_s, upI, yo], Or.inr ⟨by decide, rfl, by simp [wr_s, upI], by simp [wr_s, upI], by simp [wr_s, upI, yo], fun z => absurd z (by decide)⟩⟩
