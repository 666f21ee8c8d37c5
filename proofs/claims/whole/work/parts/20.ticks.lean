/-! ticks -/
/-- what a tick leaves: the cells' contents h, the sums anything -/
def TkP (p : Nat) (h : Int → Int) (M M' : Mem) : Prop := (∀ c, c ≠ p + 2 → c ≠ p + 4 → M' c = M c) ∧ M' (p + 2) = h
theorem TkP.I {p : Nat} {h : Int → Int} {M M' : Mem} (t : TkP p h M M') (q : PkI p M) (b : ∀ i, 0 ≤ i → i < M p 4 → 0 ≤ h i ∧ h i ≤ 999) : PkI p M' := by
  have e0 := t.1 p (by omega) (by omega)
  have e1 := t.1 (p + 1) (by omega) (by omega)
  have e3 := t.1 (p + 3) (by omega) (by omega)
  unfold PkI at q ⊢
  rw [e0, e1, t.2, e3]
  obtain ⟨q1, q2, q3, q4, q5, q6, q7, q8, q9, q10, q11⟩ := q
  refine ⟨q1, q2, q3, q4, q5, q6, q7, q8, q9, q10, fun i h0 h1 => ?_⟩
  have := q11 i h0 h1
  have := b i h0 h1
  omega
theorem tickH_b {home h : Int → Int} {n k fl rt sl : Int} (f0 : 0 ≤ fl) (r0 : 0 ≤ rt) (hb : ∀ i, 0 ≤ i → i < n → 0 ≤ h i ∧ h i ≤ 999) (n0 : 0 ≤ n) : ∀ i, 0 ≤ i → i < n → 0 ≤ tickH home n k fl rt sl h i ∧ tickH home n k fl rt sl h i ≤ 999 := tHN_b f0 r0 hb n0 _
theorem rtH_b {home : Int → Int} {n k fl rt sl : Int} (f0 : 0 ≤ fl) (r0 : 0 ≤ rt) (n0 : 0 ≤ n) : ∀ (m : Nat) (h : Int → Int), (∀ i, 0 ≤ i → i < n → 0 ≤ h i ∧ h i ≤ 999) → ∀ i, 0 ≤ i → i < n → 0 ≤ rtH home n k fl rt sl m h i ∧ rtH home n k fl rt sl m h i ≤ 999
  | 0, _, hb => hb
  | m + 1, h, hb => by
    have q := tickH_b (home := home) (k := k) (sl := sl) f0 r0 hb n0
    unfold rtH
    split
    · exact q
    · exact rtH_b f0 r0 n0 m _ q
set_option maxHeartbeats 4000000 in
set_option maxRecDepth 20000 in
theorem lp_strongestOf_3 (D : Nat) (M : Mem) (hI : PkI 3 M) (g : Int) (g0 : inR g) : ∀ i : Int, 0 ≤ i → i ≤ M 3 4 → Wp D 25 (5, [some (.inr (.inr 3)), some (.inl g), some (.inl (stZ (M 6) (M 5) i g)), some (.inl i)], [], M) (fun r M' => ∃ v, r = some (.inl v) ∧ (v = stZ (M 6) (M 5) (M 3 4) g ∧ M' = M)) := by
  obtain ⟨n0, n1, k0, k1, f0, f1, r0, r1, s0, s1, hA⟩ := pkd_3 hI
  refine loopZ (M 3 4) ?_
  intro i h0 h1 ih
  refine w_iload_n ta_25 rfl rfl ?_
  refine w_aload_n ta_25 rfl rfl ?_
  refine w_getI 4 ta_25 rfl rfl rfl ?_
  refine w_icmp_ge ta_25 rfl ⟨by omega, by omega⟩ ⟨by omega, by omega⟩ (fun h10 => ?_) (fun h10 => ?_)
  · refine w_iload_n ta_25 rfl rfl ?_
    refine w_iret ta_25 rfl (Or.inl rfl) ?_
    exact ⟨_, rfl, by rw [show i = M 3 4 by omega], rfl⟩
  · have q := hA i h0 h10
    obtain ⟨g2, g3⟩ := id g0
    have ih := ih h10
    rw [stZ_s _ _ _ h0] at ih
    have b := stZ_b (M 6) (M 5) g h0
    refine w_aload_n ta_25 rfl rfl ?_
    refine w_getR ta_25 rfl rfl ?_
    refine w_iload_n ta_25 rfl rfl ?_
    refine w_iaload ta_25 rfl rfl (by omega) (by omega) (by omega) ?_
    refine w_iload_n ta_25 rfl rfl ?_
    refine w_icmp_ne ta_25 rfl ⟨by omega, by omega⟩ ⟨by omega, by omega⟩ (fun h20 => ?_) (fun h20 => ?_)
    · refine w_iinc_3_4 ta_25 rfl rfl ?_
      refine w_goto ta_25 rfl ?_
      first
        | (rw [if_pos (by omega)] at ih; exact ih)
        | (rw [if_neg (by omega)] at ih; exact ih)
    · refine w_iload_n ta_25 rfl rfl ?_
      refine w_bipush ta_25 rfl ?_
      refine w_icmp_eq ta_25 rfl ⟨by omega, by omega⟩ ⟨by omega, by omega⟩ (fun h26 => ?_) (fun h26 => ?_)
      · refine w_iload_n ta_25 rfl rfl ?_
        refine w_istn_2_4 ta_25 rfl rfl ?_
        refine w_iinc_3_4 ta_25 rfl rfl ?_
        refine w_goto ta_25 rfl ?_
        first
          | (rw [if_pos (by omega)] at ih; exact ih)
          | (rw [if_neg (by omega)] at ih; exact ih)
      · have b2 := b.resolve_left h26
        have q2 := hA _ b2.1 (by omega)
        refine w_aload_n ta_25 rfl rfl ?_
        refine w_getR ta_25 rfl rfl ?_
        refine w_iload_n ta_25 rfl rfl ?_
        refine w_iaload ta_25 rfl rfl (by omega) (by omega) (by omega) ?_
        refine w_aload_n ta_25 rfl rfl ?_
        refine w_getR ta_25 rfl rfl ?_
        refine w_iload_n ta_25 rfl rfl ?_
        refine w_iaload ta_25 rfl rfl (by omega) (by omega) (by omega) ?_
        refine w_icmp_le ta_25 rfl ⟨by omega, by omega⟩ ⟨by omega, by omega⟩ (fun h41 => ?_) (fun h41 => ?_)
        · refine w_iinc_3_4 ta_25 rfl rfl ?_
          refine w_goto ta_25 rfl ?_
          first
            | (rw [if_pos (by omega)] at ih; exact ih)
            | (rw [if_neg (by omega)] at ih; exact ih)
        · refine w_iload_n ta_25 rfl rfl ?_
          refine w_istn_2_4 ta_25 rfl rfl ?_
          refine w_iinc_3_4 ta_25 rfl rfl ?_
          refine w_goto ta_25 rfl ?_
          first
            | (rw [if_pos (by omega)] at ih; exact ih)
            | (rw [if_neg (by omega)] at ih; exact ih)
set_option maxHeartbeats 4000000 in
set_option maxRecDepth 20000 in
theorem c_strongestOf_3 (D : Nat) (M : Mem) (hI : PkI 3 M) (g : Int) (g0 : inR g) : CI D 25 [.inr (.inr 3), .inl g] M (fun v M' => v = stZ (M 6) (M 5) (M 3 4) g ∧ M' = M) := by
  refine mk_C mt_25 rfl (Nat.le_of_ble_eq_true rfl) (L := [some _, some _, none, none]) rfl ?_
  refine w_bipush ta_25 rfl ?_
  refine w_istn_2_4 ta_25 rfl rfl ?_
  refine w_iconst ta_25 rfl ?_
  refine w_istn_3_4 ta_25 rfl rfl ?_
  exact lp_strongestOf_3 D M hI g g0 0 (by omega) hI.1
set_option maxHeartbeats 4000000 in
set_option maxRecDepth 20000 in
theorem c_strongestLoses_3 (D : Nat) (M : Mem) (hI : PkI 3 M) (g : Int) (g0 : inR g) : CI (D + 4) 32 [.inr (.inr 3), .inl g] M (fun v M' => v = tkB (M 6) (M 3 4) (M 3 6) (M 5) g ∧ M' = setC M 5 (tkF (M 6) (M 3 4) (M 3 6) (M 3 7) (M 5) g)) := by
  refine mk_C mt_32 rfl (Nat.le_of_ble_eq_true rfl) (L := [some _, some _, none]) rfl ?_
  obtain ⟨n0, n1, k0, k1, f0, f1, r0, r1, s0, s1, hA⟩ := pkd_3 hI
  refine w_aload_n ta_32 rfl rfl ?_
  refine w_iload_n ta_32 rfl rfl ?_
  refine w_cI [_, _] _ ta_32 rfl rfl rfl mt_25 rfl rfl rfl rfl (Nat.le_of_ble_eq_true rfl) (fun _ => rfl) rfl (c_strongestOf_3 _ M hI g g0) ?_
  rintro v M2 ⟨hv, rfl⟩
  have b := stZ_b (M2 6) (M2 5) g n0
  rw [← hv] at b
  refine w_istn_2_3 ta_32 rfl rfl ?_
  refine w_iload_n ta_32 rfl rfl ?_
  refine w_bipush ta_32 rfl ?_
  refine w_icmp_eq ta_32 rfl ⟨by omega, by omega⟩ ⟨by omega, by omega⟩ (fun h9 => ?_) (fun h9 => ?_)
  · refine w_iconst ta_32 rfl ?_
    refine w_iret ta_32 rfl (Or.inr ⟨rfl, by omega⟩) ?_
    refine ⟨_, rfl, ?_, ?_⟩
    · unfold tkB
      rw [← hv, if_neg (by omega)]
    · unfold tkF
      rw [← hv, if_neg (by omega), sc_id]
  · have b := b.resolve_left h9
    have q := hA v b.1 b.2.1
    refine w_aload_n ta_32 rfl rfl ?_
    refine w_getR ta_32 rfl rfl ?_
    refine w_iload_n ta_32 rfl rfl ?_
    refine w_iaload ta_32 rfl rfl (by omega) (by omega) (by omega) ?_
    refine w_aload_n ta_32 rfl rfl ?_
    refine w_getI 6 ta_32 rfl rfl rfl ?_
    refine w_icmp_gt ta_32 rfl ⟨by omega, by omega⟩ ⟨by omega, by omega⟩ (fun h22 => ?_) (fun h22 => ?_)
    · refine w_aload_n ta_32 rfl rfl ?_
      refine w_getR ta_32 rfl rfl ?_
      refine w_iload_n ta_32 rfl rfl ?_
      refine w_aload_n ta_32 rfl rfl ?_
      refine w_getI 6 ta_32 rfl rfl rfl ?_
      refine w_aload_n ta_32 rfl rfl ?_
      refine w_getR ta_32 rfl rfl ?_
      refine w_iload_n ta_32 rfl rfl ?_
      refine w_iaload ta_32 rfl rfl (by omega) (by omega) (by omega) ?_
      refine w_aload_n ta_32 rfl rfl ?_
      refine w_getI 7 ta_32 rfl rfl rfl ?_
      refine w_isub ta_32 rfl ?_
      refine w_max ta_32 rfl ⟨by omega, by omega⟩ ⟨by omega, by omega⟩ (Nat.le_of_ble_eq_true rfl) ?_
      refine w_iastore ta_32 rfl rfl (by omega) (by omega) (by omega) ?_
      refine w_iconst ta_32 rfl ?_
      refine w_iret ta_32 rfl (Or.inr ⟨rfl, by omega⟩) ?_
      have hc : v ≠ -4 ∧ M2 3 6 < M2 5 v := ⟨by omega, by omega⟩
      refine ⟨_, rfl, ?_, ?_⟩
      · unfold tkB
        rw [← hv, if_pos hc]
      · unfold tkF
        rw [← hv, if_pos hc]
        rfl
    · refine w_iconst ta_32 rfl ?_
      refine w_iret ta_32 rfl (Or.inr ⟨rfl, by omega⟩) ?_
      refine ⟨_, rfl, ?_, ?_⟩
      · unfold tkB
        rw [← hv, if_neg (by omega)]
      · unfold tkF
        rw [← hv, if_neg (by omega), sc_id]
set_option maxHeartbeats 4000000 in
set_option maxRecDepth 20000 in
theorem lp_tickLoses_3 (D : Nat) (M : Mem) (hI : PkI 3 M) (s : Int → Int) (lim : Int) (M1 : Mem) (e1 : ∀ c, c ≠ 7 → M1 c = M c) (es : ∀ g, 0 ≤ g → g < 5 → M1 7 g = s g) (hs : ∀ g, 0 ≤ g → g < 5 → inR (s g)) (hl : inR lim) : ∀ i : Int, 0 ≤ i → i ≤ M 3 5 → Wp (D + 5) 31 (14, [some (.inr (.inr 3)), some (.inl lim), some (.inl (tA (M 6) (M 3 4) (M 3 6) (M 3 7) lim s (M 5) i)), some (.inl i)], [], setC M1 5 (tH (M 6) (M 3 4) (M 3 6) (M 3 7) lim s (M 5) i)) (fun r M' => ∃ v, r = some (.inl v) ∧ (v = tA (M 6) (M 3 4) (M 3 6) (M 3 7) lim s (M 5) (M 3 5) ∧ TkP 3 (tH (M 6) (M 3 4) (M 3 6) (M 3 7) lim s (M 5) (M 3 5)) M M')) := by
  obtain ⟨n0, n1, k0, k1, f0, f1, r0, r1, s0, s1, hA⟩ := pkd_3 hI
  refine loopZ (M 3 5) ?_
  intro i h0 h1 ih
  refine w_iload_n ta_31 rfl rfl ?_
  refine w_aload_n ta_31 rfl rfl ?_
  refine w_getIv 5 (v := M 3 5) ta_31 rfl rfl rfl (by show M1 3 5 = _; rw [e1 3 (by decide)]) ?_
  refine w_icmp_ge ta_31 rfl ⟨by omega, by omega⟩ ⟨by omega, by omega⟩ (fun h19 => ?_) (fun h19 => ?_)
  · refine w_iload_n ta_31 rfl rfl ?_
    refine w_iret ta_31 rfl (Or.inr ⟨rfl, tAN_01 _ _ _ _ _ _ _ _⟩) ?_
    exact ⟨_, rfl, by rw [show i = M 3 5 by omega], by rw [← show i = M 3 5 by omega]; exact ⟨fun c h2 h4 => (sc_n _ _ h2).trans (e1 c h4), sc_s _ _ _⟩⟩
  · refine w_aload_n ta_31 rfl rfl ?_
    refine w_getR ta_31 rfl rfl ?_
    refine w_iload_n ta_31 rfl rfl ?_
    obtain ⟨l0, l1⟩ := id hl
    obtain ⟨t0, t1⟩ := hs i h0 (by omega)
    have ih := ih h19
    rw [tH_s _ _ _ _ _ _ _ h0, tA_s _ _ _ _ _ _ _ h0] at ih
    have hT : TkP 3 (tH (M 6) (M 3 4) (M 3 6) (M 3 7) lim s (M 5) i) M (setC M1 5 (tH (M 6) (M 3 4) (M 3 6) (M 3 7) lim s (M 5) i)) := ⟨fun c h2 h4 => (sc_n _ _ h2).trans (e1 c h4), sc_s _ _ _⟩
    have hI2 := hT.I hI (tHN_b f0 (by omega) (fun j j0 j1 => by have := hA j j0 j1; omega) n0 _)
    have z3 : setC M1 5 (tH (M 6) (M 3 4) (M 3 6) (M 3 7) lim s (M 5) i) 3 = M 3 := hT.1 3 (by decide) (by decide)
    have z6 : setC M1 5 (tH (M 6) (M 3 4) (M 3 6) (M 3 7) lim s (M 5) i) 6 = M 6 := hT.1 6 (by decide) (by decide)
    refine w_ialoadv (v := s i) ta_31 rfl rfl (by omega) (by omega) (by omega) (by show M1 7 i = _; exact es i h0 (by omega)) ?_
    refine w_iload_n ta_31 rfl rfl ?_
    refine w_icmp_le ta_31 rfl ⟨by omega, by omega⟩ ⟨by omega, by omega⟩ (fun h29 => ?_) (fun h29 => ?_)
    · simp only [show ¬ lim < s i by omega, false_and, if_false] at ih
      refine w_iinc_3_4 ta_31 rfl rfl ?_
      refine w_goto ta_31 rfl ?_
      exact ih
    · simp only [show lim < s i by omega, true_and, if_true] at ih
      refine w_aload_n ta_31 rfl rfl ?_
      refine w_iload_n ta_31 rfl rfl ?_
      refine w_cI [_, _] _ ta_31 rfl rfl rfl mt_32 rfl rfl rfl rfl (Nat.le_of_ble_eq_true rfl) (fun _ => rfl) rfl (c_strongestLoses_3 _ _ hI2 i (by constructor <;> omega)) ?_
      rintro v M2 ⟨hv, rfl⟩
      rw [z3, z6, sc_s] at hv
      rw [z3, z6, sc_s, sc_sc]
      have hv1 : v = 0 ∨ v = 1 := by rw [hv]; unfold tkB; split <;> omega
      refine w_if_eq ta_31 rfl ⟨by omega, by omega⟩ (fun h37 => ?_) (fun h37 => ?_)
      · rw [← hv, if_neg (by omega)] at ih
        refine w_iinc_3_4 ta_31 rfl rfl ?_
        refine w_goto ta_31 rfl ?_
        exact ih
      · rw [← hv, if_pos (by omega)] at ih
        refine w_iconst ta_31 rfl ?_
        refine w_istn_2_4 ta_31 rfl rfl ?_
        refine w_iinc_3_4 ta_31 rfl rfl ?_
        refine w_goto ta_31 rfl ?_
        exact ih
set_option maxHeartbeats 4000000 in
set_option maxRecDepth 20000 in
theorem c_tickLoses_3 (D : Nat) (M : Mem) (hI : PkI 3 M) : CI (D + 5) 31 [.inr (.inr 3)] M (fun v M' => v = tickA (M 6) (M 3 4) (M 3 5) (M 3 6) (M 3 7) (M 3 8) (M 5) ∧ TkP 3 (tickH (M 6) (M 3 4) (M 3 5) (M 3 6) (M 3 7) (M 3 8) (M 5)) M M') := by
  refine mk_C mt_31 rfl (Nat.le_of_ble_eq_true rfl) (L := [some _, none, none, none]) rfl ?_
  obtain ⟨n0, n1, k0, k1, f0, f1, r0, r1, s0, s1, hA⟩ := pkd_3 hI
  refine w_aload_n ta_31 rfl rfl ?_
  refine w_cI [_] _ ta_31 rfl rfl rfl mt_19 rfl rfl rfl rfl (Nat.le_of_ble_eq_true rfl) (fun _ => rfl) rfl (c_leastSum_3 _ M hI) ?_
  rintro v M1 ⟨hv, hS⟩
  have e3 : M1 3 = M 3 := hS.1 3 (by decide)
  have bl := SG_b hI (flZ (SG 3 M) (M 3 5))
  refine w_aload_n ta_31 rfl rfl ?_
  refine w_getIv 8 (v := M 3 8) ta_31 rfl rfl rfl (by rw [e3]) ?_
  refine w_iadd ta_31 rfl ?_
  refine w_istn_1_4 ta_31 rfl rfl ?_
  refine w_iconst ta_31 rfl ?_
  refine w_istn_2_4 ta_31 rfl rfl ?_
  refine w_iconst ta_31 rfl ?_
  refine w_istn_3_4 ta_31 rfl rfl ?_
  have hv : v = lsZ (fun g => sumG (M 5) (M 6) (M 3 4) g) (M 3 5) := hv
  have e5 : M1 5 = M 5 := hS.1 5 (by decide)
  have q := lp_tickLoses_3 D M hI (fun g => sumG (M 5) (M 6) (M 3 4) g) (v + M 3 8) M1 (fun c hc => hS.1 c hc) (fun g h0 h1 => hS.2 g h0 h1) (fun g h0 h1 => by have := SG_b hI g; exact ⟨by show _ ≤ SG 3 M g; omega, by show SG 3 M g < _; omega⟩) (by have : v = SG 3 M (flZ (SG 3 M) (M 3 5)) := hv; constructor <;> omega) 0 (by omega) (by omega)
  rw [show tH (M 6) (M 3 4) (M 3 6) (M 3 7) (v + M 3 8) (fun g => sumG (M 5) (M 6) (M 3 4) g) (M 5) 0 = M1 5 from e5.symm, sc_id] at q
  rw [hv] at q ⊢
  exact q
set_option maxHeartbeats 4000000 in
set_option maxRecDepth 20000 in
theorem lp_runTicks_3 (D : Nat) (most : Int) (hm : inR most) : ∀ (m : Nat) (t : Int) (M : Mem), PkI 3 M → 0 ≤ t → t + m = most → Wp (D + 6) 30 (2, [some (.inr (.inr 3)), some (.inl most), some (.inl t)], [], M) (fun r M' => ∃ v, r = some (.inl v) ∧ (v = t + rtC (M 6) (M 3 4) (M 3 5) (M 3 6) (M 3 7) (M 3 8) m (M 5) ∧ TkP 3 (rtH (M 6) (M 3 4) (M 3 5) (M 3 6) (M 3 7) (M 3 8) m (M 5)) M M')) := by
  obtain ⟨m0, m1⟩ := id hm
  intro m
  induction m with
  | zero =>
    intro t M hI h0 h1
    refine w_iload_n ta_30 rfl rfl ?_
    refine w_iload_n ta_30 rfl rfl ?_
    refine w_icmp_ge ta_30 rfl ⟨by omega, by omega⟩ ⟨by omega, by omega⟩ (fun h4 => ?_) (fun h4 => ?_)
    · refine w_iload_n ta_30 rfl rfl ?_
      refine w_iret ta_30 rfl (Or.inl rfl) ?_
      exact ⟨_, rfl, (Int.add_zero t).symm, fun _ _ _ => rfl, rfl⟩
    · exfalso; omega
  | succ m ih =>
    intro t M hI h0 h1
    refine w_iload_n ta_30 rfl rfl ?_
    refine w_iload_n ta_30 rfl rfl ?_
    refine w_icmp_ge ta_30 rfl ⟨by omega, by omega⟩ ⟨by omega, by omega⟩ (fun h4 => ?_) (fun h4 => ?_)
    · exfalso; omega
    · refine w_aload_n ta_30 rfl rfl ?_
      refine w_cI [_] _ ta_30 rfl rfl rfl mt_31 rfl rfl rfl rfl (Nat.le_of_ble_eq_true rfl) (fun _ => rfl) rfl (c_tickLoses_3 _ M hI) ?_
      rintro v M1 ⟨hv, hT⟩
      obtain ⟨n0, n1, k0, k1, f0, f1, r0, r1, s0, s1, hA⟩ := pkd_3 hI
      have v01 : v = 0 ∨ v = 1 := by rw [hv]; exact tAN_01 _ _ _ _ _ _ _ _
      have hI1 := hT.I hI (tickH_b f0 (by omega) (fun j j0 j1 => by have := hA j j0 j1; omega) n0)
      have z3 : M1 3 = M 3 := hT.1 3 (by decide) (by decide)
      have z6 : M1 6 = M 6 := hT.1 6 (by decide) (by decide)
      have z5 := hT.2
      refine w_if_eq ta_30 rfl ⟨by omega, by omega⟩ (fun h11 => ?_) (fun h11 => ?_)
      · have e : tickA (M 6) (M 3 4) (M 3 5) (M 3 6) (M 3 7) (M 3 8) (M 5) = 0 := by omega
        refine w_iload_n ta_30 rfl rfl ?_
        refine w_iret ta_30 rfl (Or.inl rfl) ?_
        first
          | (refine ⟨_, rfl, ?_, ?_⟩
             · rw [rtC, if_pos e]; omega
             · rw [rtH, if_pos e]; exact hT)
          | (exfalso; omega)
      · have e : ¬ tickA (M 6) (M 3 4) (M 3 5) (M 3 6) (M 3 7) (M 3 8) (M 5) = 0 := by omega
        refine w_iinc_2_3 ta_30 rfl rfl ?_
        refine w_goto ta_30 rfl ?_
        refine (ih (t + 1) M1 hI1 (by omega) (by omega)).imp ?_
        rintro r M2 ⟨w, hr, hw, hW⟩
        have z5 : M1 5 = tickH (M 6) (M 3 4) (M 3 5) (M 3 6) (M 3 7) (M 3 8) (M 5) := z5
        rw [z3, z6, z5] at hw hW
        refine ⟨w, hr, ?_, ?_⟩
        · rw [hw, rtC, if_neg e]
          omega
        · rw [rtH, if_neg e]
          exact ⟨fun c c2 c4 => (hW.1 c c2 c4).trans (hT.1 c c2 c4), hW.2⟩
set_option maxHeartbeats 4000000 in
set_option maxRecDepth 20000 in
theorem c_runTicks_3 (D : Nat) (M : Mem) (hI : PkI 3 M) (most : Int) (m0 : 0 ≤ most) (hm : inR most) : CI (D + 6) 30 [.inr (.inr 3), .inl most] M (fun v M' => v = rtC (M 6) (M 3 4) (M 3 5) (M 3 6) (M 3 7) (M 3 8) most.toNat (M 5) ∧ TkP 3 (rtH (M 6) (M 3 4) (M 3 5) (M 3 6) (M 3 7) (M 3 8) most.toNat (M 5)) M M') := by
  refine mk_C mt_30 rfl (Nat.le_of_ble_eq_true rfl) (L := [some _, some _, none]) rfl ?_
  refine w_iconst ta_30 rfl ?_
  refine w_istn_2_3 ta_30 rfl rfl ?_
  have q := lp_runTicks_3 D most hm most.toNat 0 M hI (by omega) (by omega)
  rw [Int.zero_add] at q
  exact q
set_option maxHeartbeats 4000000 in
set_option maxRecDepth 20000 in
theorem lp_strongestOf_8 (D : Nat) (M : Mem) (hI : PkI 8 M) (g : Int) (g0 : inR g) : ∀ i : Int, 0 ≤ i → i ≤ M 8 4 → Wp D 25 (5, [some (.inr (.inr 8)), some (.inl g), some (.inl (stZ (M 11) (M 10) i g)), some (.inl i)], [], M) (fun r M' => ∃ v, r = some (.inl v) ∧ (v = stZ (M 11) (M 10) (M 8 4) g ∧ M' = M)) := by
  obtain ⟨n0, n1, k0, k1, f0, f1, r0, r1, s0, s1, hA⟩ := pkd_8 hI
  refine loopZ (M 8 4) ?_
  intro i h0 h1 ih
  refine w_iload_n ta_25 rfl rfl ?_
  refine w_aload_n ta_25 rfl rfl ?_
  refine w_getI 4 ta_25 rfl rfl rfl ?_
  refine w_icmp_ge ta_25 rfl ⟨by omega, by omega⟩ ⟨by omega, by omega⟩ (fun h10 => ?_) (fun h10 => ?_)
  · refine w_iload_n ta_25 rfl rfl ?_
    refine w_iret ta_25 rfl (Or.inl rfl) ?_
    exact ⟨_, rfl, by rw [show i = M 8 4 by omega], rfl⟩
  · have q := hA i h0 h10
    obtain ⟨g2, g3⟩ := id g0
    have ih := ih h10
    rw [stZ_s _ _ _ h0] at ih
    have b := stZ_b (M 11) (M 10) g h0
    refine w_aload_n ta_25 rfl rfl ?_
    refine w_getR ta_25 rfl rfl ?_
    refine w_iload_n ta_25 rfl rfl ?_
    refine w_iaload ta_25 rfl rfl (by omega) (by omega) (by omega) ?_
    refine w_iload_n ta_25 rfl rfl ?_
    refine w_icmp_ne ta_25 rfl ⟨by omega, by omega⟩ ⟨by omega, by omega⟩ (fun h20 => ?_) (fun h20 => ?_)
    · refine w_iinc_3_4 ta_25 rfl rfl ?_
      refine w_goto ta_25 rfl ?_
      first
        | (rw [if_pos (by omega)] at ih; exact ih)
        | (rw [if_neg (by omega)] at ih; exact ih)
    · refine w_iload_n ta_25 rfl rfl ?_
      refine w_bipush ta_25 rfl ?_
      refine w_icmp_eq ta_25 rfl ⟨by omega, by omega⟩ ⟨by omega, by omega⟩ (fun h26 => ?_) (fun h26 => ?_)
      · refine w_iload_n ta_25 rfl rfl ?_
        refine w_istn_2_4 ta_25 rfl rfl ?_
        refine w_iinc_3_4 ta_25 rfl rfl ?_
        refine w_goto ta_25 rfl ?_
        first
          | (rw [if_pos (by omega)] at ih; exact ih)
          | (rw [if_neg (by omega)] at ih; exact ih)
      · have b2 := b.resolve_left h26
        have q2 := hA _ b2.1 (by omega)
        refine w_aload_n ta_25 rfl rfl ?_
        refine w_getR ta_25 rfl rfl ?_
        refine w_iload_n ta_25 rfl rfl ?_
        refine w_iaload ta_25 rfl rfl (by omega) (by omega) (by omega) ?_
        refine w_aload_n ta_25 rfl rfl ?_
        refine w_getR ta_25 rfl rfl ?_
        refine w_iload_n ta_25 rfl rfl ?_
        refine w_iaload ta_25 rfl rfl (by omega) (by omega) (by omega) ?_
        refine w_icmp_le ta_25 rfl ⟨by omega, by omega⟩ ⟨by omega, by omega⟩ (fun h41 => ?_) (fun h41 => ?_)
        · refine w_iinc_3_4 ta_25 rfl rfl ?_
          refine w_goto ta_25 rfl ?_
          first
            | (rw [if_pos (by omega)] at ih; exact ih)
            | (rw [if_neg (by omega)] at ih; exact ih)
        · refine w_iload_n ta_25 rfl rfl ?_
          refine w_istn_2_4 ta_25 rfl rfl ?_
          refine w_iinc_3_4 ta_25 rfl rfl ?_
          refine w_goto ta_25 rfl ?_
          first
            | (rw [if_pos (by omega)] at ih; exact ih)
            | (rw [if_neg (by omega)] at ih; exact ih)
set_option maxHeartbeats 4000000 in
set_option maxRecDepth 20000 in
theorem c_strongestOf_8 (D : Nat) (M : Mem) (hI : PkI 8 M) (g : Int) (g0 : inR g) : CI D 25 [.inr (.inr 8), .inl g] M (fun v M' => v = stZ (M 11) (M 10) (M 8 4) g ∧ M' = M) := by
  refine mk_C mt_25 rfl (Nat.le_of_ble_eq_true rfl) (L := [some _, some _, none, none]) rfl ?_
  refine w_bipush ta_25 rfl ?_
  refine w_istn_2_4 ta_25 rfl rfl ?_
  refine w_iconst ta_25 rfl ?_
  refine w_istn_3_4 ta_25 rfl rfl ?_
  exact lp_strongestOf_8 D M hI g g0 0 (by omega) hI.1
set_option maxHeartbeats 4000000 in
set_option maxRecDepth 20000 in
theorem c_strongestLoses_8 (D : Nat) (M : Mem) (hI : PkI 8 M) (g : Int) (g0 : inR g) : CI (D + 4) 32 [.inr (.inr 8), .inl g] M (fun v M' => v = tkB (M 11) (M 8 4) (M 8 6) (M 10) g ∧ M' = setC M 10 (tkF (M 11) (M 8 4) (M 8 6) (M 8 7) (M 10) g)) := by
  refine mk_C mt_32 rfl (Nat.le_of_ble_eq_true rfl) (L := [some _, some _, none]) rfl ?_
  obtain ⟨n0, n1, k0, k1, f0, f1, r0, r1, s0, s1, hA⟩ := pkd_8 hI
  refine w_aload_n ta_32 rfl rfl ?_
  refine w_iload_n ta_32 rfl rfl ?_
  refine w_cI [_, _] _ ta_32 rfl rfl rfl mt_25 rfl rfl rfl rfl (Nat.le_of_ble_eq_true rfl) (fun _ => rfl) rfl (c_strongestOf_8 _ M hI g g0) ?_
  rintro v M2 ⟨hv, rfl⟩
  have b := stZ_b (M2 11) (M2 10) g n0
  rw [← hv] at b
  refine w_istn_2_3 ta_32 rfl rfl ?_
  refine w_iload_n ta_32 rfl rfl ?_
  refine w_bipush ta_32 rfl ?_
  refine w_icmp_eq ta_32 rfl ⟨by omega, by omega⟩ ⟨by omega, by omega⟩ (fun h9 => ?_) (fun h9 => ?_)
  · refine w_iconst ta_32 rfl ?_
    refine w_iret ta_32 rfl (Or.inr ⟨rfl, by omega⟩) ?_
    refine ⟨_, rfl, ?_, ?_⟩
    · unfold tkB
      rw [← hv, if_neg (by omega)]
    · unfold tkF
      rw [← hv, if_neg (by omega), sc_id]
  · have b := b.resolve_left h9
    have q := hA v b.1 b.2.1
    refine w_aload_n ta_32 rfl rfl ?_
    refine w_getR ta_32 rfl rfl ?_
    refine w_iload_n ta_32 rfl rfl ?_
    refine w_iaload ta_32 rfl rfl (by omega) (by omega) (by omega) ?_
    refine w_aload_n ta_32 rfl rfl ?_
    refine w_getI 6 ta_32 rfl rfl rfl ?_
    refine w_icmp_gt ta_32 rfl ⟨by omega, by omega⟩ ⟨by omega, by omega⟩ (fun h22 => ?_) (fun h22 => ?_)
    · refine w_aload_n ta_32 rfl rfl ?_
      refine w_getR ta_32 rfl rfl ?_
      refine w_iload_n ta_32 rfl rfl ?_
      refine w_aload_n ta_32 rfl rfl ?_
      refine w_getI 6 ta_32 rfl rfl rfl ?_
      refine w_aload_n ta_32 rfl rfl ?_
      refine w_getR ta_32 rfl rfl ?_
      refine w_iload_n ta_32 rfl rfl ?_
      refine w_iaload ta_32 rfl rfl (by omega) (by omega) (by omega) ?_
      refine w_aload_n ta_32 rfl rfl ?_
      refine w_getI 7 ta_32 rfl rfl rfl ?_
      refine w_isub ta_32 rfl ?_
      refine w_max ta_32 rfl ⟨by omega, by omega⟩ ⟨by omega, by omega⟩ (Nat.le_of_ble_eq_true rfl) ?_
      refine w_iastore ta_32 rfl rfl (by omega) (by omega) (by omega) ?_
      refine w_iconst ta_32 rfl ?_
      refine w_iret ta_32 rfl (Or.inr ⟨rfl, by omega⟩) ?_
      have hc : v ≠ -4 ∧ M2 8 6 < M2 10 v := ⟨by omega, by omega⟩
      refine ⟨_, rfl, ?_, ?_⟩
      · unfold tkB
        rw [← hv, if_pos hc]
      · unfold tkF
        rw [← hv, if_pos hc]
        rfl
    · refine w_iconst ta_32 rfl ?_
      refine w_iret ta_32 rfl (Or.inr ⟨rfl, by omega⟩) ?_
      refine ⟨_, rfl, ?_, ?_⟩
      · unfold tkB
        rw [← hv, if_neg (by omega)]
      · unfold tkF
        rw [← hv, if_neg (by omega), sc_id]
set_option maxHeartbeats 4000000 in
set_option maxRecDepth 20000 in
theorem lp_tickLoses_8 (D : Nat) (M : Mem) (hI : PkI 8 M) (s : Int → Int) (lim : Int) (M1 : Mem) (e1 : ∀ c, c ≠ 12 → M1 c = M c) (es : ∀ g, 0 ≤ g → g < 5 → M1 12 g = s g) (hs : ∀ g, 0 ≤ g → g < 5 → inR (s g)) (hl : inR lim) : ∀ i : Int, 0 ≤ i → i ≤ M 8 5 → Wp (D + 5) 31 (14, [some (.inr (.inr 8)), some (.inl lim), some (.inl (tA (M 11) (M 8 4) (M 8 6) (M 8 7) lim s (M 10) i)), some (.inl i)], [], setC M1 10 (tH (M 11) (M 8 4) (M 8 6) (M 8 7) lim s (M 10) i)) (fun r M' => ∃ v, r = some (.inl v) ∧ (v = tA (M 11) (M 8 4) (M 8 6) (M 8 7) lim s (M 10) (M 8 5) ∧ TkP 8 (tH (M 11) (M 8 4) (M 8 6) (M 8 7) lim s (M 10) (M 8 5)) M M')) := by
  obtain ⟨n0, n1, k0, k1, f0, f1, r0, r1, s0, s1, hA⟩ := pkd_8 hI
  refine loopZ (M 8 5) ?_
  intro i h0 h1 ih
  refine w_iload_n ta_31 rfl rfl ?_
  refine w_aload_n ta_31 rfl rfl ?_
  refine w_getIv 5 (v := M 8 5) ta_31 rfl rfl rfl (by show M1 8 5 = _; rw [e1 8 (by decide)]) ?_
  refine w_icmp_ge ta_31 rfl ⟨by omega, by omega⟩ ⟨by omega, by omega⟩ (fun h19 => ?_) (fun h19 => ?_)
  · refine w_iload_n ta_31 rfl rfl ?_
    refine w_iret ta_31 rfl (Or.inr ⟨rfl, tAN_01 _ _ _ _ _ _ _ _⟩) ?_
    exact ⟨_, rfl, by rw [show i = M 8 5 by omega], by rw [← show i = M 8 5 by omega]; exact ⟨fun c h2 h4 => (sc_n _ _ h2).trans (e1 c h4), sc_s _ _ _⟩⟩
  · refine w_aload_n ta_31 rfl rfl ?_
    refine w_getR ta_31 rfl rfl ?_
    refine w_iload_n ta_31 rfl rfl ?_
    obtain ⟨l0, l1⟩ := id hl
    obtain ⟨t0, t1⟩ := hs i h0 (by omega)
    have ih := ih h19
    rw [tH_s _ _ _ _ _ _ _ h0, tA_s _ _ _ _ _ _ _ h0] at ih
    have hT : TkP 8 (tH (M 11) (M 8 4) (M 8 6) (M 8 7) lim s (M 10) i) M (setC M1 10 (tH (M 11) (M 8 4) (M 8 6) (M 8 7) lim s (M 10) i)) := ⟨fun c h2 h4 => (sc_n _ _ h2).trans (e1 c h4), sc_s _ _ _⟩
    have hI2 := hT.I hI (tHN_b f0 (by omega) (fun j j0 j1 => by have := hA j j0 j1; omega) n0 _)
    have z3 : setC M1 10 (tH (M 11) (M 8 4) (M 8 6) (M 8 7) lim s (M 10) i) 8 = M 8 := hT.1 8 (by decide) (by decide)
    have z6 : setC M1 10 (tH (M 11) (M 8 4) (M 8 6) (M 8 7) lim s (M 10) i) 11 = M 11 := hT.1 11 (by decide) (by decide)
    refine w_ialoadv (v := s i) ta_31 rfl rfl (by omega) (by omega) (by omega) (by show M1 12 i = _; exact es i h0 (by omega)) ?_
    refine w_iload_n ta_31 rfl rfl ?_
    refine w_icmp_le ta_31 rfl ⟨by omega, by omega⟩ ⟨by omega, by omega⟩ (fun h29 => ?_) (fun h29 => ?_)
    · simp only [show ¬ lim < s i by omega, false_and, if_false] at ih
      refine w_iinc_3_4 ta_31 rfl rfl ?_
      refine w_goto ta_31 rfl ?_
      exact ih
    · simp only [show lim < s i by omega, true_and, if_true] at ih
      refine w_aload_n ta_31 rfl rfl ?_
      refine w_iload_n ta_31 rfl rfl ?_
      refine w_cI [_, _] _ ta_31 rfl rfl rfl mt_32 rfl rfl rfl rfl (Nat.le_of_ble_eq_true rfl) (fun _ => rfl) rfl (c_strongestLoses_8 _ _ hI2 i (by constructor <;> omega)) ?_
      rintro v M2 ⟨hv, rfl⟩
      rw [z3, z6, sc_s] at hv
      rw [z3, z6, sc_s, sc_sc]
      have hv1 : v = 0 ∨ v = 1 := by rw [hv]; unfold tkB; split <;> omega
      refine w_if_eq ta_31 rfl ⟨by omega, by omega⟩ (fun h37 => ?_) (fun h37 => ?_)
      · rw [← hv, if_neg (by omega)] at ih
        refine w_iinc_3_4 ta_31 rfl rfl ?_
        refine w_goto ta_31 rfl ?_
        exact ih
      · rw [← hv, if_pos (by omega)] at ih
        refine w_iconst ta_31 rfl ?_
        refine w_istn_2_4 ta_31 rfl rfl ?_
        refine w_iinc_3_4 ta_31 rfl rfl ?_
        refine w_goto ta_31 rfl ?_
        exact ih
set_option maxHeartbeats 4000000 in
set_option maxRecDepth 20000 in
theorem c_tickLoses_8 (D : Nat) (M : Mem) (hI : PkI 8 M) : CI (D + 5) 31 [.inr (.inr 8)] M (fun v M' => v = tickA (M 11) (M 8 4) (M 8 5) (M 8 6) (M 8 7) (M 8 8) (M 10) ∧ TkP 8 (tickH (M 11) (M 8 4) (M 8 5) (M 8 6) (M 8 7) (M 8 8) (M 10)) M M') := by
  refine mk_C mt_31 rfl (Nat.le_of_ble_eq_true rfl) (L := [some _, none, none, none]) rfl ?_
  obtain ⟨n0, n1, k0, k1, f0, f1, r0, r1, s0, s1, hA⟩ := pkd_8 hI
  refine w_aload_n ta_31 rfl rfl ?_
  refine w_cI [_] _ ta_31 rfl rfl rfl mt_19 rfl rfl rfl rfl (Nat.le_of_ble_eq_true rfl) (fun _ => rfl) rfl (c_leastSum_8 _ M hI) ?_
  rintro v M1 ⟨hv, hS⟩
  have e3 : M1 8 = M 8 := hS.1 8 (by decide)
  have bl := SG_b hI (flZ (SG 8 M) (M 8 5))
  refine w_aload_n ta_31 rfl rfl ?_
  refine w_getIv 8 (v := M 8 8) ta_31 rfl rfl rfl (by rw [e3]) ?_
  refine w_iadd ta_31 rfl ?_
  refine w_istn_1_4 ta_31 rfl rfl ?_
  refine w_iconst ta_31 rfl ?_
  refine w_istn_2_4 ta_31 rfl rfl ?_
  refine w_iconst ta_31 rfl ?_
  refine w_istn_3_4 ta_31 rfl rfl ?_
  have hv : v = lsZ (fun g => sumG (M 10) (M 11) (M 8 4) g) (M 8 5) := hv
  have e5 : M1 10 = M 10 := hS.1 10 (by decide)
  have q := lp_tickLoses_8 D M hI (fun g => sumG (M 10) (M 11) (M 8 4) g) (v + M 8 8) M1 (fun c hc => hS.1 c hc) (fun g h0 h1 => hS.2 g h0 h1) (fun g h0 h1 => by have := SG_b hI g; exact ⟨by show _ ≤ SG 8 M g; omega, by show SG 8 M g < _; omega⟩) (by have : v = SG 8 M (flZ (SG 8 M) (M 8 5)) := hv; constructor <;> omega) 0 (by omega) (by omega)
  rw [show tH (M 11) (M 8 4) (M 8 6) (M 8 7) (v + M 8 8) (fun g => sumG (M 10) (M 11) (M 8 4) g) (M 10) 0 = M1 10 from e5.symm, sc_id] at q
  rw [hv] at q ⊢
  exact q
set_option maxHeartbeats 4000000 in
set_option maxRecDepth 20000 in
theorem lp_runTicks_8 (D : Nat) (most : Int) (hm : inR most) : ∀ (m : Nat) (t : Int) (M : Mem), PkI 8 M → 0 ≤ t → t + m = most → Wp (D + 6) 30 (2, [some (.inr (.inr 8)), some (.inl most), some (.inl t)], [], M) (fun r M' => ∃ v, r = some (.inl v) ∧ (v = t + rtC (M 11) (M 8 4) (M 8 5) (M 8 6) (M 8 7) (M 8 8) m (M 10) ∧ TkP 8 (rtH (M 11) (M 8 4) (M 8 5) (M 8 6) (M 8 7) (M 8 8) m (M 10)) M M')) := by
  obtain ⟨m0, m1⟩ := id hm
  intro m
  induction m with
  | zero =>
    intro t M hI h0 h1
    refine w_iload_n ta_30 rfl rfl ?_
    refine w_iload_n ta_30 rfl rfl ?_
    refine w_icmp_ge ta_30 rfl ⟨by omega, by omega⟩ ⟨by omega, by omega⟩ (fun h4 => ?_) (fun h4 => ?_)
    · refine w_iload_n ta_30 rfl rfl ?_
      refine w_iret ta_30 rfl (Or.inl rfl) ?_
      exact ⟨_, rfl, (Int.add_zero t).symm, fun _ _ _ => rfl, rfl⟩
    · exfalso; omega
  | succ m ih =>
    intro t M hI h0 h1
    refine w_iload_n ta_30 rfl rfl ?_
    refine w_iload_n ta_30 rfl rfl ?_
    refine w_icmp_ge ta_30 rfl ⟨by omega, by omega⟩ ⟨by omega, by omega⟩ (fun h4 => ?_) (fun h4 => ?_)
    · exfalso; omega
    · refine w_aload_n ta_30 rfl rfl ?_
      refine w_cI [_] _ ta_30 rfl rfl rfl mt_31 rfl rfl rfl rfl (Nat.le_of_ble_eq_true rfl) (fun _ => rfl) rfl (c_tickLoses_8 _ M hI) ?_
      rintro v M1 ⟨hv, hT⟩
      obtain ⟨n0, n1, k0, k1, f0, f1, r0, r1, s0, s1, hA⟩ := pkd_8 hI
      have v01 : v = 0 ∨ v = 1 := by rw [hv]; exact tAN_01 _ _ _ _ _ _ _ _
      have hI1 := hT.I hI (tickH_b f0 (by omega) (fun j j0 j1 => by have := hA j j0 j1; omega) n0)
      have z3 : M1 8 = M 8 := hT.1 8 (by decide) (by decide)
      have z6 : M1 11 = M 11 := hT.1 11 (by decide) (by decide)
      have z5 := hT.2
      refine w_if_eq ta_30 rfl ⟨by omega, by omega⟩ (fun h11 => ?_) (fun h11 => ?_)
      · have e : tickA (M 11) (M 8 4) (M 8 5) (M 8 6) (M 8 7) (M 8 8) (M 10) = 0 := by omega
        refine w_iload_n ta_30 rfl rfl ?_
        refine w_iret ta_30 rfl (Or.inl rfl) ?_
        first
          | (refine ⟨_, rfl, ?_, ?_⟩
             · rw [rtC, if_pos e]; omega
             · rw [rtH, if_pos e]; exact hT)
          | (exfalso; omega)
      · have e : ¬ tickA (M 11) (M 8 4) (M 8 5) (M 8 6) (M 8 7) (M 8 8) (M 10) = 0 := by omega
        refine w_iinc_2_3 ta_30 rfl rfl ?_
        refine w_goto ta_30 rfl ?_
        refine (ih (t + 1) M1 hI1 (by omega) (by omega)).imp ?_
        rintro r M2 ⟨w, hr, hw, hW⟩
        have z5 : M1 10 = tickH (M 11) (M 8 4) (M 8 5) (M 8 6) (M 8 7) (M 8 8) (M 10) := z5
        rw [z3, z6, z5] at hw hW
        refine ⟨w, hr, ?_, ?_⟩
        · rw [hw, rtC, if_neg e]
          omega
        · rw [rtH, if_neg e]
          exact ⟨fun c c2 c4 => (hW.1 c c2 c4).trans (hT.1 c c2 c4), hW.2⟩
set_option maxHeartbeats 4000000 in
set_option maxRecDepth 20000 in
theorem c_runTicks_8 (D : Nat) (M : Mem) (hI : PkI 8 M) (most : Int) (m0 : 0 ≤ most) (hm : inR most) : CI (D + 6) 30 [.inr (.inr 8), .inl most] M (fun v M' => v = rtC (M 11) (M 8 4) (M 8 5) (M 8 6) (M 8 7) (M 8 8) most.toNat (M 10) ∧ TkP 8 (rtH (M 11) (M 8 4) (M 8 5) (M 8 6) (M 8 7) (M 8 8) most.toNat (M 10)) M M') := by
  refine mk_C mt_30 rfl (Nat.le_of_ble_eq_true rfl) (L := [some _, some _, none]) rfl ?_
  refine w_iconst ta_30 rfl ?_
  refine w_istn_2_3 ta_30 rfl rfl ?_
  have q := lp_runTicks_8 D most hm most.toNat 0 M hI (by omega) (by omega)
  rw [Int.zero_add] at q
  exact q
