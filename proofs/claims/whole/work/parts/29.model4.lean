/-! the reference: ticks, plan, images -/
def TkM (h : Int → Int) (M M' : Mem) : Prop := (∀ c, c ≠ 81 → c ≠ 88 → M' c = M c) ∧ (∀ z, z < 21 ∨ 37 ≤ z → M' 81 z = M 81 z) ∧ ∀ i, 0 ≤ i → i < M 81 0 → M' 81 (21 + i) = h i
theorem TkM.I {h : Int → Int} {M M' : Mem} (t : TkM h M M') (hI : MdI M) (b : ∀ i, 0 ≤ i → i < M 81 0 → 0 ≤ h i ∧ h i ≤ 999) : MdI M' := by
  obtain ⟨n0, n1, k0, k1, f0, f1, r0, r1, s0, s1, hA⟩ := id hI
  unfold MdI
  rw [t.2.1 0 (by omega), t.2.1 1 (by omega), t.2.1 2 (by omega), t.2.1 3 (by omega), t.2.1 4 (by omega)]
  refine ⟨n0, n1, k0, k1, f0, f1, r0, r1, s0, s1, fun i h0 h1 => ?_⟩
  rw [t.2.1 (5 + i) (by omega), t.2.1 (37 + i) (by omega), t.2.2 i h0 h1]
  have := hA i h0 h1
  have := b i h0 h1
  omega
theorem TkM.cg {h h' : Int → Int} {M M' : Mem} (t : TkM h M M') (q : ∀ i, 0 ≤ i → i < M 81 0 → h i = h' i) : TkM h' M M' := ⟨t.1, t.2.1, fun i h0 h1 => (t.2.2 i h0 h1).trans (q i h0 h1)⟩
theorem TkM.tr {h h' : Int → Int} {M N M' : Mem} (t : TkM h M N) (u : TkM h' N M') : TkM h' M M' := ⟨fun c c1 c2 => (u.1 c c1 c2).trans (t.1 c c1 c2), fun z hz => (u.2.1 z hz).trans (t.2.1 z hz), fun i h0 h1 => u.2.2 i h0 (by rw [t.2.1 0 (by omega)]; exact h1)⟩
theorem TkM.wr {h : Int → Int} {M N : Mem} (t : TkM h M N) {j v : Int} (j0 : 0 ≤ j) (j1 : j < M 81 0) (n1 : M 81 0 ≤ 16) : TkM (upI h j v) M (_root_.Jvm.Pilot.CCellPacksLaw_law_r2141_cac9e1.wr N 81 (21 + j) v) := by
  refine ⟨fun c c1 c2 => (wr_n _ _ _ c1).trans (t.1 c c1 c2), fun z hz => ?_, fun i h0 h1 => ?_⟩
  · rw [wr_s, up_n _ _ (by omega)]; exact t.2.1 z hz
  · rw [wr_s]
    unfold upI
    by_cases e : i = j
    · rw [if_pos (by omega), if_pos e]
    · rw [if_neg (by omega), if_neg e]; exact t.2.2 i h0 h1
theorem TkM.G {h : Int → Int} {M N : Mem} (t : TkM h M N) : ∀ i, 0 ≤ i → i < M 81 0 → mG N i = mG M i ∧ mH N i = h i := fun i h0 h1 => ⟨t.2.1 _ (by omega), t.2.2 i h0 h1⟩
set_option maxHeartbeats 4000000 in
set_option maxRecDepth 20000 in
theorem lm_ticks (D : Nat) (M : Mem) (hI : MdI M) (s : Int → Int) (lim : Int) (hs : ∀ g, 0 ≤ g → g < 5 → inR (s g)) (hl : inR lim) : ∀ i : Int, 0 ≤ i → i ≤ M 81 1 → ∀ (N : Mem) (a b : Option AV), TkM (tH (mG M) (M 81 0) (M 81 2) (M 81 3) lim s (mH M) i) M N → (∀ g, 0 ≤ g → g < 5 → N 88 g = s g) → Wp (D + 2) 176 (22, [some (.inr (.inr 80)), some (.inl (tA (mG M) (M 81 0) (M 81 2) (M 81 3) lim s (mH M) i)), some (.inl lim), some (.inl i), a, b], [], N) (fun r M' => ∃ v, r = some (.inl v) ∧ (v = tA (mG M) (M 81 0) (M 81 2) (M 81 3) lim s (mH M) (M 81 1) ∧ TkM (tH (mG M) (M 81 0) (M 81 2) (M 81 3) lim s (mH M) (M 81 1)) M M')) := by
  obtain ⟨n0, n1, k0, k1, f0, f1, r0, r1, s0, s1, hA⟩ := id hI
  refine loopZ (M 81 1) ?_
  intro i h0 h1 ih N a b hT es
  refine w_iload_n ta_176 rfl rfl ?_
  refine w_aload_n ta_176 rfl rfl ?_
  refine w_getR ta_176 rfl rfl ?_
  refine w_iconst ta_176 rfl ?_
  refine w_ialoadv (v := M 81 1) ta_176 rfl rfl (by decide) (by decide) (by omega) (hT.2.1 1 (by omega)) ?_
  refine w_icmp_ge ta_176 rfl ⟨by omega, by omega⟩ ⟨by omega, by omega⟩ (fun h29 => ?_) (fun h29 => ?_)
  · refine w_iload_n ta_176 rfl rfl ?_
    refine w_iret ta_176 rfl (Or.inr ⟨rfl, tAN_01 _ _ _ _ _ _ _ _⟩) ?_
    have e : i = M 81 1 := by omega
    subst e
    exact ⟨_, rfl, rfl, hT⟩
  · have bh : ∀ j, 0 ≤ j → j < M 81 0 → 0 ≤ tH (mG M) (M 81 0) (M 81 2) (M 81 3) lim s (mH M) i j ∧ tH (mG M) (M 81 0) (M 81 2) (M 81 3) lim s (mH M) i j ≤ 999 := tHN_b f0 (by omega) (fun j j0 j1 => by have := hA j j0 j1; show 0 ≤ M 81 (21 + j) ∧ M 81 (21 + j) ≤ 999; omega) n0 _
    have hN := hT.I hI bh
    obtain ⟨l0, l1⟩ := id hl
    obtain ⟨t0, t1⟩ := hs i h0 (by omega)
    have ih := ih h29
    rw [tH_s _ _ _ _ _ _ _ h0, tA_s _ _ _ _ _ _ _ h0] at ih
    unfold tkB tkF at ih
    refine w_aload_n ta_176 rfl rfl ?_
    refine w_iload_n ta_176 rfl rfl ?_
    refine w_cI [_, _] _ ta_176 rfl rfl rfl mt_137 rfl rfl rfl rfl (Nat.le_of_ble_eq_true rfl) (fun _ => rfl) rfl (cm_strongest _ N hN i (by constructor <;> omega)) ?_
    rintro v N2 ⟨hv, rfl⟩
    rw [hT.2.1 0 (by omega), stZ_cg hT.G] at hv
    have bz := stZ_b (mG M) (tH (mG M) (M 81 0) (M 81 2) (M 81 3) lim s (mH M) i) i n0
    rw [← hv] at bz ih
    refine w_ist_4_6 ta_176 rfl rfl ?_
    refine w_aload_n ta_176 rfl rfl ?_
    refine w_getR ta_176 rfl rfl ?_
    refine w_iload_n ta_176 rfl rfl ?_
    refine w_ialoadv (v := s i) ta_176 rfl rfl (by omega) (by omega) (by omega) (es i h0 (by omega)) ?_
    refine w_iload_n ta_176 rfl rfl ?_
    refine w_icmp_le ta_176 rfl ⟨by omega, by omega⟩ ⟨by omega, by omega⟩ (fun h46 => ?_) (fun h46 => ?_)
    · simp only [show ¬ lim < s i by omega, if_false, false_and] at ih
      refine w_iinc_3_6 ta_176 rfl rfl ?_
      refine w_goto ta_176 rfl ?_
      first
        | exact ih _ _ _ hT es
        | exact ih _ _ _ (hT.wr b1.1 b1.2.1 n1) (fun g g0 g1 => (congrFun (wr_n _ _ _ (by decide)) g).trans (es g g0 g1))
    · simp only [show lim < s i by omega, if_true, true_and] at ih
      refine w_iload ta_176 rfl rfl ?_
      refine w_bipush ta_176 rfl ?_
      refine w_icmp_eq ta_176 rfl ⟨by omega, by omega⟩ ⟨by omega, by omega⟩ (fun h53 => ?_) (fun h53 => ?_)
      · have c1 : ¬ (v ≠ -4 ∧ M 81 2 < tH (mG M) (M 81 0) (M 81 2) (M 81 3) lim s (mH M) i v) := by omega
        simp only [if_neg c1, show ¬ (0 : Int) = 1 by decide, if_false] at ih
        refine w_iinc_3_6 ta_176 rfl rfl ?_
        refine w_goto ta_176 rfl ?_
        first
          | exact ih _ _ _ hT es
          | exact ih _ _ _ (hT.wr b1.1 b1.2.1 n1) (fun g g0 g1 => (congrFun (wr_n _ _ _ (by decide)) g).trans (es g g0 g1))
      · have b1 := bz.resolve_left h53
        have bq := bh v b1.1 b1.2.1
        refine w_aload_n ta_176 rfl rfl ?_
        refine w_getR ta_176 rfl rfl ?_
        refine w_bipush ta_176 rfl ?_
        refine w_iload ta_176 rfl rfl ?_
        refine w_iadd ta_176 rfl ?_
        refine w_ialoadv (v := tH (mG M) (M 81 0) (M 81 2) (M 81 3) lim s (mH M) i v) ta_176 rfl rfl (by omega) (by omega) (by omega) (hT.2.2 v b1.1 b1.2.1) ?_
        refine w_aload_n ta_176 rfl rfl ?_
        refine w_getR ta_176 rfl rfl ?_
        refine w_iconst ta_176 rfl ?_
        refine w_ialoadv (v := M 81 2) ta_176 rfl rfl (by decide) (by decide) (by omega) (hT.2.1 2 (by omega)) ?_
        refine w_icmp_le ta_176 rfl ⟨by omega, by omega⟩ ⟨by omega, by omega⟩ (fun h72 => ?_) (fun h72 => ?_)
        · have c1 : ¬ (v ≠ -4 ∧ M 81 2 < tH (mG M) (M 81 0) (M 81 2) (M 81 3) lim s (mH M) i v) := by omega
          simp only [if_neg c1, show ¬ (0 : Int) = 1 by decide, if_false] at ih
          refine w_iinc_3_6 ta_176 rfl rfl ?_
          refine w_goto ta_176 rfl ?_
          first
            | exact ih _ _ _ hT es
            | exact ih _ _ _ (hT.wr b1.1 b1.2.1 n1) (fun g g0 g1 => (congrFun (wr_n _ _ _ (by decide)) g).trans (es g g0 g1))
        · have c1 : v ≠ -4 ∧ M 81 2 < tH (mG M) (M 81 0) (M 81 2) (M 81 3) lim s (mH M) i v := ⟨h53, by omega⟩
          simp only [if_pos c1, ↓reduceIte] at ih
          refine w_aload_n ta_176 rfl rfl ?_
          refine w_getR ta_176 rfl rfl ?_
          refine w_bipush ta_176 rfl ?_
          refine w_iload ta_176 rfl rfl ?_
          refine w_iadd ta_176 rfl ?_
          refine w_ialoadv (v := tH (mG M) (M 81 0) (M 81 2) (M 81 3) lim s (mH M) i v) ta_176 rfl rfl (by omega) (by omega) (by omega) (hT.2.2 v b1.1 b1.2.1) ?_
          refine w_aload_n ta_176 rfl rfl ?_
          refine w_getR ta_176 rfl rfl ?_
          refine w_iconst ta_176 rfl ?_
          refine w_ialoadv (v := M 81 3) ta_176 rfl rfl (by decide) (by decide) (by omega) (hT.2.1 3 (by omega)) ?_
          refine w_isub ta_176 rfl ?_
          refine w_ist_5_6 ta_176 rfl rfl ?_
          refine w_aload_n ta_176 rfl rfl ?_
          refine w_getR ta_176 rfl rfl ?_
          refine w_bipush ta_176 rfl ?_
          refine w_iload ta_176 rfl rfl ?_
          refine w_iadd ta_176 rfl ?_
          refine w_iload ta_176 rfl rfl ?_
          refine w_aload_n ta_176 rfl rfl ?_
          refine w_getR ta_176 rfl rfl ?_
          refine w_iconst ta_176 rfl ?_
          refine w_ialoadv (v := M 81 2) ta_176 rfl rfl (by decide) (by decide) (by omega) (hT.2.1 2 (by omega)) ?_
          refine w_icmp_le ta_176 rfl ⟨by omega, by omega⟩ ⟨by omega, by omega⟩ (fun h111 => ?_) (fun h111 => ?_)
          · have c2 : ¬ M 81 2 < tH (mG M) (M 81 0) (M 81 2) (M 81 3) lim s (mH M) i v - M 81 3 := by omega
            simp only [if_neg c2] at ih
            refine w_aload_n ta_176 rfl rfl ?_
            refine w_getR ta_176 rfl rfl ?_
            refine w_iconst ta_176 rfl ?_
            refine w_ialoadv (v := M 81 2) ta_176 rfl rfl (by decide) (by decide) (by omega) (hT.2.1 2 (by omega)) ?_
            refine w_iastore ta_176 rfl rfl (by omega) (by omega) (by omega) ?_
            refine w_iconst ta_176 rfl ?_
            refine w_istn_1_6 ta_176 rfl rfl ?_
            refine w_iinc_3_6 ta_176 rfl rfl ?_
            refine w_goto ta_176 rfl ?_
            first
              | exact ih _ _ _ hT es
              | exact ih _ _ _ (hT.wr b1.1 b1.2.1 n1) (fun g g0 g1 => (congrFun (wr_n _ _ _ (by decide)) g).trans (es g g0 g1))
          · have c2 : M 81 2 < tH (mG M) (M 81 0) (M 81 2) (M 81 3) lim s (mH M) i v - M 81 3 := by omega
            simp only [if_pos c2] at ih
            refine w_iload ta_176 rfl rfl ?_
            refine w_goto ta_176 rfl ?_
            refine w_iastore ta_176 rfl rfl (by omega) (by omega) (by omega) ?_
            refine w_iconst ta_176 rfl ?_
            refine w_istn_1_6 ta_176 rfl rfl ?_
            refine w_iinc_3_6 ta_176 rfl rfl ?_
            refine w_goto ta_176 rfl ?_
            first
              | exact ih _ _ _ hT es
              | exact ih _ _ _ (hT.wr b1.1 b1.2.1 n1) (fun g g0 g1 => (congrFun (wr_n _ _ _ (by decide)) g).trans (es g g0 g1))
set_option maxHeartbeats 4000000 in
set_option maxRecDepth 20000 in
theorem cm_ticks (D : Nat) (M : Mem) (hI : MdI M) : CI (D + 2) 176 [.inr (.inr 80)] M (fun v M' => v = tickA (mG M) (M 81 0) (M 81 1) (M 81 2) (M 81 3) (M 81 4) (mH M) ∧ TkM (tickH (mG M) (M 81 0) (M 81 1) (M 81 2) (M 81 3) (M 81 4) (mH M)) M M') := by
  refine mk_C mt_176 rfl (Nat.le_of_ble_eq_true rfl) (L := [some _, none, none, none, none, none]) rfl ?_
  obtain ⟨n0, n1, k0, k1, f0, f1, r0, r1, s0, s1, hA⟩ := id hI
  refine w_iconst ta_176 rfl ?_
  refine w_istn_1_6 ta_176 rfl rfl ?_
  refine w_aload_n ta_176 rfl rfl ?_
  refine w_bipush ta_176 rfl ?_
  refine w_cV [_, _] _ ta_176 rfl rfl rfl mt_125 rfl rfl rfl rfl (Nat.le_of_ble_eq_true rfl) (fun _ => rfl) rfl (cm_sumNow _ M hI 21 (by omega) (by omega)) ?_
  rintro M1 hS
  have e1 : M1 81 = M 81 := hS.1 81 (by decide)
  have hI1 := hS.I hI
  refine w_aload_n ta_176 rfl rfl ?_
  refine w_cI [_] _ ta_176 rfl rfl rfl mt_128 rfl rfl rfl rfl (Nat.le_of_ble_eq_true rfl) (fun _ => rfl) rfl (cm_least _ M1 hI1 (fun g g0 g1 => by rw [hS.2 g g0 g1]; have := mS_b hI (v := 21) (Or.inr rfl) g; constructor <;> omega)) ?_
  rintro v M2 ⟨hv, rfl⟩
  rw [hS.ls hI] at hv
  have bl := mS_b hI (v := 21) (Or.inr rfl) (flZ (mS M 21) (M 81 1))
  have hv2 : v = mS M 21 (flZ (mS M 21) (M 81 1)) := hv
  refine w_aload_n ta_176 rfl rfl ?_
  refine w_getR ta_176 rfl rfl ?_
  refine w_iconst ta_176 rfl ?_
  refine w_ialoadv (v := M 81 4) ta_176 rfl rfl (by decide) (by decide) (by omega) (by rw [e1]) ?_
  refine w_iadd ta_176 rfl ?_
  refine w_istn_2_6 ta_176 rfl rfl ?_
  refine w_iconst ta_176 rfl ?_
  refine w_istn_3_6 ta_176 rfl rfl ?_
  have q := lm_ticks D M hI (mS M 21) (v + M 81 4) (fun g g0 g1 => by have := mS_b hI (v := 21) (Or.inr rfl) g; constructor <;> omega) (by constructor <;> omega) 0 (by omega) (by omega) M2 none none ⟨fun c c1 c2 => hS.1 c c2, fun z hz => by rw [e1], fun i h0 h1 => by rw [e1]; rfl⟩ (fun g g0 g1 => hS.2 g g0 g1)
  rw [hv] at q ⊢
  exact q
set_option maxHeartbeats 4000000 in
set_option maxRecDepth 20000 in
theorem lm_ticksOn (D : Nat) (most : Int) (hm : inR most) (M : Mem) (hI : MdI M) : ∀ (m : Nat) (t : Int) (h : Int → Int) (N : Mem), TkM h M N → (∀ i, 0 ≤ i → i < M 81 0 → 0 ≤ h i ∧ h i ≤ 999) → 0 ≤ t → t + m = most → Wp (D + 3) 177 (2, [some (.inr (.inr 80)), some (.inl most), some (.inl t)], [], N) (fun r M' => ∃ v, r = some (.inl v) ∧ (v = t + rtC (mG M) (M 81 0) (M 81 1) (M 81 2) (M 81 3) (M 81 4) m h ∧ TkM (rtH (mG M) (M 81 0) (M 81 1) (M 81 2) (M 81 3) (M 81 4) m h) M M')) := by
  obtain ⟨m0, m1⟩ := id hm
  obtain ⟨n0, n1, k0, k1, f0, f1, r0, r1, s0, s1, hA⟩ := id hI
  intro m
  induction m with
  | zero =>
    intro t h N hT hb h0 h1
    refine w_iload_n ta_177 rfl rfl ?_
    refine w_iload_n ta_177 rfl rfl ?_
    refine w_icmp_ge ta_177 rfl ⟨by omega, by omega⟩ ⟨by omega, by omega⟩ (fun h4 => ?_) (fun h4 => ?_)
    · refine w_iload_n ta_177 rfl rfl ?_
      refine w_iret ta_177 rfl (Or.inl rfl) ?_
      exact ⟨_, rfl, (Int.add_zero t).symm, hT⟩
    · exfalso; omega
  | succ m ih =>
    intro t h N hT hb h0 h1
    refine w_iload_n ta_177 rfl rfl ?_
    refine w_iload_n ta_177 rfl rfl ?_
    refine w_icmp_ge ta_177 rfl ⟨by omega, by omega⟩ ⟨by omega, by omega⟩ (fun h4 => ?_) (fun h4 => ?_)
    · exfalso; omega
    · refine w_aload_n ta_177 rfl rfl ?_
      refine w_cI [_] _ ta_177 rfl rfl rfl mt_176 rfl rfl rfl rfl (Nat.le_of_ble_eq_true rfl) (fun _ => rfl) rfl (cm_ticks _ N (hT.I hI hb)) ?_
      rintro v N1 ⟨hv, hT1⟩
      rw [hT.2.1 0 (by omega), hT.2.1 1 (by omega), hT.2.1 2 (by omega), hT.2.1 3 (by omega), hT.2.1 4 (by omega)] at hv hT1
      obtain ⟨cg1, cg2⟩ := tick_cg (k := M 81 1) (fl := M 81 2) (rt := M 81 3) (sl := M 81 4) n0 (by omega) hT.G
      have hT2 := (hT.tr hT1).cg cg1
      rw [cg2] at hv
      have v01 : v = 0 ∨ v = 1 := by rw [hv]; exact tAN_01 _ _ _ _ _ _ _ _
      refine w_if_eq ta_177 rfl ⟨by omega, by omega⟩ (fun h11 => ?_) (fun h11 => ?_)
      · refine w_iload_n ta_177 rfl rfl ?_
        refine w_iret ta_177 rfl (Or.inl rfl) ?_
        first
          | (exfalso; omega)
          | (refine ⟨_, rfl, ?_, ?_⟩
             · rw [rtC, if_pos (by omega)]; omega
             · rw [rtH, if_pos (by omega)]; exact hT2)
      · refine w_iinc_2_3 ta_177 rfl rfl ?_
        refine w_goto ta_177 rfl ?_
        have e : ¬ tickA (mG M) (M 81 0) (M 81 1) (M 81 2) (M 81 3) (M 81 4) h = 0 := by omega
        have q := ih (t + 1) (tickH (mG M) (M 81 0) (M 81 1) (M 81 2) (M 81 3) (M 81 4) h) N1 hT2 (tickH_b f0 (by omega) hb n0) (by omega) (by omega)
        rw [rtC, rtH, if_neg e, if_neg e, ← Int.add_assoc]
        exact q
set_option maxHeartbeats 4000000 in
set_option maxRecDepth 20000 in
theorem cm_ticksOn (D : Nat) (M : Mem) (hI : MdI M) (most : Int) (m0 : 0 ≤ most) (hm : inR most) : CI (D + 3) 177 [.inr (.inr 80), .inl most] M (fun v M' => v = rtC (mG M) (M 81 0) (M 81 1) (M 81 2) (M 81 3) (M 81 4) most.toNat (mH M) ∧ TkM (rtH (mG M) (M 81 0) (M 81 1) (M 81 2) (M 81 3) (M 81 4) most.toNat (mH M)) M M') := by
  refine mk_C mt_177 rfl (Nat.le_of_ble_eq_true rfl) (L := [some _, some _, none]) rfl ?_
  obtain ⟨n0, n1, k0, k1, f0, f1, r0, r1, s0, s1, hA⟩ := id hI
  refine w_iconst ta_177 rfl ?_
  refine w_istn_2_3 ta_177 rfl rfl ?_
  have q := lm_ticksOn D most hm M hI most.toNat 0 (mH M) M ⟨fun _ _ _ => rfl, fun _ _ => rfl, fun _ _ _ => rfl⟩ (fun i h0 h1 => by have := hA i h0 h1; show 0 ≤ M 81 (21 + i) ∧ M 81 (21 + i) ≤ 999; omega) (by omega) (by omega)
  rw [Int.zero_add] at q
  exact q
set_option maxHeartbeats 4000000 in
set_option maxRecDepth 20000 in
theorem cm_bleed (D : Nat) (M : Mem) (hI : MdI M) (x : Int) (hx : inR x) : CI (D + 4) 178 [.inr (.inr 80), .inl x] M (fun v M' => (¬ (1 ≤ x ∧ x ≤ 200) ∧ v = -1 ∧ M' = M) ∨ ((1 ≤ x ∧ x ≤ 200) ∧ v = rtC (mG M) (M 81 0) (M 81 1) (M 81 2) (M 81 3) (M 81 4) x.toNat (mH M) ∧ TkM (rtH (mG M) (M 81 0) (M 81 1) (M 81 2) (M 81 3) (M 81 4) x.toNat (mH M)) M M')) := by
  refine mk_C mt_178 rfl (Nat.le_of_ble_eq_true rfl) (L := [some _, some _]) rfl ?_
  obtain ⟨n0, n1, k0, k1, f0, f1, r0, r1, s0, s1, hA⟩ := id hI
  obtain ⟨x0, x1⟩ := id hx
  refine w_iload_n ta_178 rfl rfl ?_
  refine w_i2l ta_178 rfl ⟨by omega, by omega⟩ ?_
  refine w_lconst ta_178 rfl ?_
  refine w_ldc2_w ta_178 rfl ?_
  refine w_cI [_, _, _] _ ta_178 rfl rfl rfl mt_106 rfl rfl rfl rfl (Nat.le_of_ble_eq_true rfl) (fun q => by cases q) rfl (cm_in _ x 1 200 M (by constructor <;> omega) (by constructor <;> omega) (by constructor <;> omega)) ?_
  rintro v M2 ⟨hv, rfl⟩
  refine w_if_eq ta_178 rfl ⟨by omega, by omega⟩ (fun h9 => ?_) (fun h9 => ?_)
  · refine w_iconst ta_178 rfl ?_
    refine w_iret ta_178 rfl (Or.inl rfl) ?_
    first
      | exact ⟨_, rfl, Or.inl ⟨by omega, rfl, rfl⟩⟩
      | exact ⟨_, rfl, Or.inr ⟨by omega, hw, hT⟩⟩
  · refine w_aload_n ta_178 rfl rfl ?_
    refine w_iload_n ta_178 rfl rfl ?_
    refine w_cI [_, _] _ ta_178 rfl rfl rfl mt_177 rfl rfl rfl rfl (Nat.le_of_ble_eq_true rfl) (fun _ => rfl) rfl (cm_ticksOn _ M2 hI x (by omega) hx) ?_
    rintro w M3 ⟨hw, hT⟩
    refine w_goto ta_178 rfl ?_
    refine w_iret ta_178 rfl (Or.inl rfl) ?_
    first
      | exact ⟨_, rfl, Or.inl ⟨by omega, rfl, rfl⟩⟩
      | exact ⟨_, rfl, Or.inr ⟨by omega, hw, hT⟩⟩
def cpF (f g : Int → Int) (i : Int) : Int → Int := fun z => if 0 ≤ z ∧ z < i then g z else f z
theorem cpF_0 (f g : Int → Int) : cpF f g 0 = f := by funext z; exact if_neg (by omega)
theorem cpF_s (f g : Int → Int) {i : Int} (h : 0 ≤ i) : upI (cpF f g i) i (g i) = cpF f g (i + 1) := by
  funext z
  unfold upI cpF
  by_cases a : z = i
  · subst a; rw [if_pos rfl, if_pos (by omega)]
  · rw [if_neg a]
    by_cases b : 0 ≤ z ∧ z < i
    · rw [if_pos b, if_pos (by omega)]
    · rw [if_neg b, if_neg (by omega)]
theorem cpF_at {f g : Int → Int} {i z : Int} (h0 : 0 ≤ z) (h1 : z < i) : cpF f g i z = g z := if_pos ⟨h0, h1⟩
set_option maxHeartbeats 4000000 in
set_option maxRecDepth 20000 in
theorem lm_keepBefore (D : Nat) (M : Mem) : ∀ i : Int, 0 ≤ i → i ≤ 53 → Wp D 182 (2, [some (.inr (.inr 80)), some (.inl i)], [], setC M 84 (cpF (M 84) (M 81) i)) (fun r M' => r = none ∧ M' = setC M 84 (cpF (M 84) (M 81) 53)) := by
  refine loopZ 53 ?_
  intro i h0 h1 ih
  refine w_iload_n ta_182 rfl rfl ?_
  refine w_bipush ta_182 rfl ?_
  refine w_icmp_ge ta_182 rfl ⟨by omega, by omega⟩ ⟨by omega, by omega⟩ (fun h5 => ?_) (fun h5 => ?_)
  · refine w_vret ta_182 rfl ?_
    exact ⟨rfl, by rw [show i = 53 by omega]⟩
  · refine w_aload_n ta_182 rfl rfl ?_
    refine w_getR ta_182 rfl rfl ?_
    refine w_iload_n ta_182 rfl rfl ?_
    refine w_aload_n ta_182 rfl rfl ?_
    refine w_getR ta_182 rfl rfl ?_
    refine w_iload_n ta_182 rfl rfl ?_
    refine w_ialoadv (v := M 81 i) ta_182 rfl rfl (by omega) (by omega) (by omega) (by rw [sc_n _ _ (by decide)]) ?_
    refine w_iastore ta_182 rfl rfl (by omega) (by omega) (by omega) ?_
    refine w_iinc_1_2 ta_182 rfl rfl ?_
    refine w_goto ta_182 rfl ?_
    rw [wr_sc, cpF_s _ _ h0]
    exact ih h5
set_option maxHeartbeats 4000000 in
set_option maxRecDepth 20000 in
theorem cm_keepBefore (D : Nat) (M : Mem) : CV D 182 [.inr (.inr 80)] M (fun M' => M' = setC M 84 (cpF (M 84) (M 81) 53)) := by
  refine mk_C mt_182 rfl (Nat.le_of_ble_eq_true rfl) (L := [some _, none]) rfl ?_
  refine w_iconst ta_182 rfl ?_
  refine w_istn_1_2 ta_182 rfl rfl ?_
  have q := lm_keepBefore D M 0 (by omega) (by omega)
  rw [cpF_0, sc_id] at q
  exact q
set_option maxHeartbeats 4000000 in
set_option maxRecDepth 20000 in
theorem lm_backBefore (D : Nat) (M : Mem) : ∀ i : Int, 0 ≤ i → i ≤ 53 → Wp D 183 (2, [some (.inr (.inr 80)), some (.inl i)], [], setC M 81 (cpF (M 81) (M 84) i)) (fun r M' => r = none ∧ M' = setC M 81 (cpF (M 81) (M 84) 53)) := by
  refine loopZ 53 ?_
  intro i h0 h1 ih
  refine w_iload_n ta_183 rfl rfl ?_
  refine w_bipush ta_183 rfl ?_
  refine w_icmp_ge ta_183 rfl ⟨by omega, by omega⟩ ⟨by omega, by omega⟩ (fun h5 => ?_) (fun h5 => ?_)
  · refine w_vret ta_183 rfl ?_
    exact ⟨rfl, by rw [show i = 53 by omega]⟩
  · refine w_aload_n ta_183 rfl rfl ?_
    refine w_getR ta_183 rfl rfl ?_
    refine w_iload_n ta_183 rfl rfl ?_
    refine w_aload_n ta_183 rfl rfl ?_
    refine w_getR ta_183 rfl rfl ?_
    refine w_iload_n ta_183 rfl rfl ?_
    refine w_ialoadv (v := M 84 i) ta_183 rfl rfl (by omega) (by omega) (by omega) (by rw [sc_n _ _ (by decide)]) ?_
    refine w_iastore ta_183 rfl rfl (by omega) (by omega) (by omega) ?_
    refine w_iinc_1_2 ta_183 rfl rfl ?_
    refine w_goto ta_183 rfl ?_
    rw [wr_sc, cpF_s _ _ h0]
    exact ih h5
set_option maxHeartbeats 4000000 in
set_option maxRecDepth 20000 in
theorem cm_backBefore (D : Nat) (M : Mem) : CV D 183 [.inr (.inr 80)] M (fun M' => M' = setC M 81 (cpF (M 81) (M 84) 53)) := by
  refine mk_C mt_183 rfl (Nat.le_of_ble_eq_true rfl) (L := [some _, none]) rfl ?_
  refine w_iconst ta_183 rfl ?_
  refine w_istn_1_2 ta_183 rfl rfl ?_
  have q := lm_backBefore D M 0 (by omega) (by omega)
  rw [cpF_0, sc_id] at q
  exact q
set_option maxHeartbeats 4000000 in
set_option maxRecDepth 20000 in
theorem cm_plan (D : Nat) (M : Mem) (hI : MdI M) (x : Int) (hx : inR x) : CI (D + 4) 179 [.inr (.inr 80), .inl x] M (fun v M' => (¬ (0 ≤ x ∧ x ≤ 2) ∧ v = -1 ∧ M' = M) ∨ ((0 ≤ x ∧ x ≤ 2) ∧ v = plZ x (M 81 0) (M 81 1) (M 81 2) (M 81 3) (M 81 4) (mH M) (mG M) ∧ (∀ c, c ≠ 81 → c ≠ 84 → c ≠ 88 → M' c = M c) ∧ ∀ z, 0 ≤ z → z < 53 → M' 81 z = M 81 z)) := by
  refine mk_C mt_179 rfl (Nat.le_of_ble_eq_true rfl) (L := [some _, some _, none, none, none, none]) rfl ?_
  obtain ⟨n0, n1, k0, k1, f0, f1, r0, r1, s0, s1, hA⟩ := id hI
  obtain ⟨x0, x1⟩ := id hx
  refine w_iload_n ta_179 rfl rfl ?_
  refine w_i2l ta_179 rfl ⟨by omega, by omega⟩ ?_
  refine w_lconst ta_179 rfl ?_
  refine w_ldc2_w ta_179 rfl ?_
  refine w_cI [_, _, _] _ ta_179 rfl rfl rfl mt_106 rfl rfl rfl rfl (Nat.le_of_ble_eq_true rfl) (fun q => by cases q) rfl (cm_in _ x 0 2 M (by constructor <;> omega) (by constructor <;> omega) (by constructor <;> omega)) ?_
  rintro v M2 ⟨hv, rfl⟩
  refine w_if_ne ta_179 rfl ⟨by omega, by omega⟩ (fun h9 => ?_) (fun h9 => ?_)
  · refine w_aload_n ta_179 rfl rfl ?_
    refine w_cV [_] _ ta_179 rfl rfl rfl mt_182 rfl rfl rfl rfl (Nat.le_of_ble_eq_true rfl) (fun _ => rfl) rfl (cm_keepBefore _ M2) ?_
    rintro M3 hM3
    have e1 : M3 81 = M2 81 := by rw [hM3, sc_n _ _ (by decide)]
    have hI3 : MdI M3 := hI.of e1
    refine w_aload_n ta_179 rfl rfl ?_
    refine w_bipush ta_179 rfl ?_
    refine w_cI [_, _] _ ta_179 rfl rfl rfl mt_131 rfl rfl rfl rfl (Nat.le_of_ble_eq_true rfl) (fun _ => rfl) rfl (cm_all _ M3 hI3 21 (by omega) (by omega)) ?_
    rintro a M4 ⟨ha, rfl⟩
    refine w_istn_2_6 ta_179 rfl rfl ?_
    refine w_aload_n ta_179 rfl rfl ?_
    refine w_sipush ta_179 rfl ?_
    refine w_cI [_, _] _ ta_179 rfl rfl rfl mt_177 rfl rfl rfl rfl (Nat.le_of_ble_eq_true rfl) (fun _ => rfl) rfl (cm_ticksOn _ M4 hI3 200 (by omega) (by decide)) ?_
    rintro t M5 ⟨ht, hT⟩
    rw [show mG M4 = mG M2 by unfold mG; rw [e1], show mH M4 = mH M2 by unfold mH; rw [e1], e1] at ht hT
    have hb := rtH_b (home := mG M2) (k := M2 81 1) (sl := M2 81 4) f0 (show 0 ≤ M2 81 3 by omega) n0 200 (mH M2) (fun i h0 h1 => by have := hA i h0 h1; show 0 ≤ M2 81 (21 + i) ∧ M2 81 (21 + i) ≤ 999; omega)
    have hI5 := hT.I hI3 (fun i h0 h1 => hb i h0 (by rw [e1] at h1; exact h1))
    have q0 : M5 81 0 = M2 81 0 := (hT.2.1 0 (by omega)).trans (by rw [e1])
    have q1 : M5 81 1 = M2 81 1 := (hT.2.1 1 (by omega)).trans (by rw [e1])
    have qh : ∀ i, 0 ≤ i → i < M2 81 0 → M5 81 (21 + i) = rtH (mG M2) (M2 81 0) (M2 81 1) (M2 81 2) (M2 81 3) (M2 81 4) 200 (mH M2) i := fun i h0 h1 => hT.2.2 i h0 (by rw [e1]; exact h1)
    have qg : ∀ i, 0 ≤ i → i < M2 81 0 → mG M5 i = mG M2 i := fun i h0 h1 => (hT.2.1 (37 + i) (by omega)).trans (by rw [e1])
    refine w_istn_3_6 ta_179 rfl rfl ?_
    refine w_iload_n ta_179 rfl rfl ?_
    refine w_aload_n ta_179 rfl rfl ?_
    refine w_bipush ta_179 rfl ?_
    refine w_cI [_, _] _ ta_179 rfl rfl rfl mt_131 rfl rfl rfl rfl (Nat.le_of_ble_eq_true rfl) (fun _ => rfl) rfl (cm_all _ M5 hI5 21 (by omega) (by omega)) ?_
    rintro b M6 ⟨hb6, rfl⟩
    refine w_isub ta_179 rfl ?_
    refine w_ist_4_6 ta_179 rfl rfl ?_
    refine w_aload_n ta_179 rfl rfl ?_
    refine w_cI [_] _ ta_179 rfl rfl rfl mt_130 rfl rfl rfl rfl (Nat.le_of_ble_eq_true rfl) (fun _ => rfl) rfl (cm_spreadNow _ M6 hI5) ?_
    rintro s M7 ⟨hs, hS⟩
    refine w_ist_5_6 ta_179 rfl rfl ?_
    refine w_aload_n ta_179 rfl rfl ?_
    refine w_cV [_] _ ta_179 rfl rfl rfl mt_183 rfl rfl rfl rfl (Nat.le_of_ble_eq_true rfl) (fun _ => rfl) rfl (cm_backBefore _ M7) ?_
    rintro M8 hM8
    rw [q0, sumZ_cg qh] at hb6
    have ha : a = sumZ (mH M2) (M2 81 0) := by rw [ha, e1]
    have hs : s = grZ (fun g => sumG (rtH (mG M2) (M2 81 0) (M2 81 1) (M2 81 2) (M2 81 3) (M2 81 4) 200 (mH M2)) (mG M2) (M2 81 0) g) (M2 81 1) - lsZ (fun g => sumG (rtH (mG M2) (M2 81 0) (M2 81 1) (M2 81 2) (M2 81 3) (M2 81 4) 200 (mH M2)) (mG M2) (M2 81 0) g) (M2 81 1) := by
      rw [hs, q1, show mS M6 21 = fun g => sumG (rtH (mG M2) (M2 81 0) (M2 81 1) (M2 81 2) (M2 81 3) (M2 81 4) 200 (mH M2)) (mG M2) (M2 81 0) g from funext fun g => by show sumG _ _ (M6 81 0) g = _; rw [q0]; exact sumG_cg g qh qg]
    have fr : ∀ c, c ≠ 81 → c ≠ 84 → c ≠ 88 → M8 c = M2 c := fun c c1 c2 c3 => by rw [hM8, sc_n _ _ c1, hS.1 c c3, hT.1 c c1 c3, hM3, sc_n _ _ c2]
    have bk : ∀ z, 0 ≤ z → z < 53 → M8 81 z = M2 81 z := fun z z0 z1 => by rw [hM8, sc_s, cpF_at z0 z1, hS.1 84 (by decide), hT.1 84 (by decide) (by decide), hM3, sc_s, cpF_at z0 z1]
    refine w_iload_n ta_179 rfl rfl ?_
    refine w_if_ne ta_179 rfl ⟨by omega, by omega⟩ (fun h54 => ?_) (fun h54 => ?_)
    · refine w_iload_n ta_179 rfl rfl ?_
      refine w_iconst ta_179 rfl ?_
      refine w_icmp_ne ta_179 rfl ⟨by omega, by omega⟩ ⟨by omega, by omega⟩ (fun h63 => ?_) (fun h63 => ?_)
      · refine w_iload ta_179 rfl rfl ?_
        refine w_iret ta_179 rfl (Or.inl rfl) ?_
        refine ⟨_, rfl, Or.inr ⟨by omega, ?_, fr, bk⟩⟩
        unfold plZ
        first
          | (rw [if_pos (by omega)]; exact ht)
          | (rw [if_neg (by omega), if_pos (by omega), ← ha, ← hb6])
          | (rw [if_neg (by omega), if_neg (by omega)]; exact hs)
      · refine w_iload ta_179 rfl rfl ?_
        refine w_goto ta_179 rfl ?_
        refine w_iret ta_179 rfl (Or.inl rfl) ?_
        refine ⟨_, rfl, Or.inr ⟨by omega, ?_, fr, bk⟩⟩
        unfold plZ
        first
          | (rw [if_pos (by omega)]; exact ht)
          | (rw [if_neg (by omega), if_pos (by omega), ← ha, ← hb6])
          | (rw [if_neg (by omega), if_neg (by omega)]; exact hs)
    · refine w_iload_n ta_179 rfl rfl ?_
      refine w_goto ta_179 rfl ?_
      refine w_iret ta_179 rfl (Or.inl rfl) ?_
      refine ⟨_, rfl, Or.inr ⟨by omega, ?_, fr, bk⟩⟩
      unfold plZ
      first
        | (rw [if_pos (by omega)]; exact ht)
        | (rw [if_neg (by omega), if_pos (by omega), ← ha, ← hb6])
        | (rw [if_neg (by omega), if_neg (by omega)]; exact hs)
  · refine w_iconst ta_179 rfl ?_
    refine w_iret ta_179 rfl (Or.inl rfl) ?_
    exact ⟨_, rfl, Or.inl ⟨by omega, rfl, rfl⟩⟩
def kpF (f g : Int → Int) (a i : Int) : Int → Int := fun z => if a ≤ z ∧ z < a + i then g (z - a) else f z
theorem kpF_0 (f g : Int → Int) (a : Int) : kpF f g a 0 = f := by funext z; exact if_neg (by omega)
theorem kpF_s (f g : Int → Int) (a : Int) {i : Int} (h : 0 ≤ i) : upI (kpF f g a i) (a + i) (g i) = kpF f g a (i + 1) := by
  funext z
  unfold upI kpF
  by_cases e : z = a + i
  · subst e; rw [if_pos rfl, if_pos (by omega), show a + i - a = i by omega]
  · rw [if_neg e]
    by_cases b : a ≤ z ∧ z < a + i
    · rw [if_pos b, if_pos (by omega)]
    · rw [if_neg b, if_neg (by omega)]
set_option maxHeartbeats 4000000 in
set_option maxRecDepth 20000 in
theorem lm_keep (D : Nat) (M : Mem) (x w : Int) (x0 : 0 ≤ x) (x1 : x < 2) : ∀ i : Int, 0 ≤ i → i ≤ 53 → Wp (D + 1) 184 (31, [some (.inr (.inr 80)), some (.inl x), some (.inl w), some (.inl i)], [], setC M 82 (kpF (M 82) (M 81) (53 * x) i)) (fun r M' => ∃ v, r = some (.inl v) ∧ (v = w ∧ M' = setC M 82 (kpF (M 82) (M 81) (53 * x) 53))) := by
  refine loopZ 53 ?_
  intro i h0 h1 ih
  refine w_iload_n ta_184 rfl rfl ?_
  refine w_bipush ta_184 rfl ?_
  refine w_icmp_ge ta_184 rfl ⟨by omega, by omega⟩ ⟨by omega, by omega⟩ (fun h34 => ?_) (fun h34 => ?_)
  · refine w_iload_n ta_184 rfl rfl ?_
    refine w_iret ta_184 rfl (Or.inl rfl) ?_
    exact ⟨_, rfl, rfl, by rw [show i = 53 by omega]⟩
  · refine w_aload_n ta_184 rfl rfl ?_
    refine w_getR ta_184 rfl rfl ?_
    refine w_bipush ta_184 rfl ?_
    refine w_iload_n ta_184 rfl rfl ?_
    refine w_imul ta_184 rfl ?_
    refine w_iload_n ta_184 rfl rfl ?_
    refine w_iadd ta_184 rfl ?_
    refine w_aload_n ta_184 rfl rfl ?_
    refine w_getR ta_184 rfl rfl ?_
    refine w_iload_n ta_184 rfl rfl ?_
    refine w_ialoadv (v := M 81 i) ta_184 rfl rfl (by omega) (by omega) (by omega) (by rw [sc_n _ _ (by decide)]) ?_
    refine w_iastore ta_184 rfl rfl (by omega) (by omega) (by omega) ?_
    refine w_iinc_3_4 ta_184 rfl rfl ?_
    refine w_goto ta_184 rfl ?_
    rw [wr_sc, kpF_s _ _ _ h0]
    exact ih h34
set_option maxHeartbeats 4000000 in
set_option maxRecDepth 20000 in
theorem cm_keepP (D : Nat) (M : Mem) (x : Int) (hx : inR x) (b : ∀ j, 0 ≤ j → j < 2 → M 83 j = 0 ∨ M 83 j = 1) : CI (D + 1) 184 [.inr (.inr 80), .inl x] M (fun v M' => (¬ (0 ≤ x ∧ x < 2) ∧ v = -1 ∧ M' = M) ∨ ((0 ≤ x ∧ x < 2) ∧ v = M 83 x ∧ M' = setC (wr M 83 x 1) 82 (kpF (M 82) (M 81) (53 * x) 53))) := by
  refine mk_C mt_184 rfl (Nat.le_of_ble_eq_true rfl) (L := [some _, some _, none, none]) rfl ?_
  obtain ⟨x0, x1⟩ := id hx
  refine w_iload_n ta_184 rfl rfl ?_
  refine w_i2l ta_184 rfl ⟨by omega, by omega⟩ ?_
  refine w_lconst ta_184 rfl ?_
  refine w_lconst ta_184 rfl ?_
  refine w_cI [_, _, _] _ ta_184 rfl rfl rfl mt_106 rfl rfl rfl rfl (Nat.le_of_ble_eq_true rfl) (fun q => by cases q) rfl (cm_in _ x 0 1 M (by constructor <;> omega) (by constructor <;> omega) (by constructor <;> omega)) ?_
  rintro v M2 ⟨hv, rfl⟩
  refine w_if_ne ta_184 rfl ⟨by omega, by omega⟩ (fun h7 => ?_) (fun h7 => ?_)
  · refine w_aload_n ta_184 rfl rfl ?_
    refine w_getR ta_184 rfl rfl ?_
    refine w_iload_n ta_184 rfl rfl ?_
    refine w_baload ta_184 rfl rfl (by omega) (by omega) (by omega) ?_
    refine w_cI [_] _ ta_184 rfl rfl rfl mt_107 rfl rfl rfl rfl (Nat.le_of_ble_eq_true rfl) (fun q => by cases q) rfl (cm_flag _ (M2 83 x) M2 (b x (by omega) (by omega))) ?_
    rintro w M3 ⟨hw, rfl⟩
    refine w_istn_2_4 ta_184 rfl rfl ?_
    refine w_aload_n ta_184 rfl rfl ?_
    refine w_getR ta_184 rfl rfl ?_
    refine w_iload_n ta_184 rfl rfl ?_
    refine w_iconst ta_184 rfl ?_
    refine w_bastore ta_184 rfl rfl (by omega) (by omega) (by omega) (by omega) ?_
    refine w_iconst ta_184 rfl ?_
    refine w_istn_3_4 ta_184 rfl rfl ?_
    have q := lm_keep D (wr M3 83 x 1) x w (by omega) (by omega) 0 (by omega) (by omega)
    rw [kpF_0, sc_id, wr_n _ _ _ (by decide), wr_n _ _ _ (by decide)] at q
    refine q.imp ?_
    rintro r M4 ⟨u, hr, hu, hM⟩
    exact ⟨u, hr, Or.inr ⟨by omega, by omega, hM⟩⟩
  · refine w_iconst ta_184 rfl ?_
    refine w_iret ta_184 rfl (Or.inl rfl) ?_
    exact ⟨_, rfl, Or.inl ⟨by omega, rfl, rfl⟩⟩
set_option maxHeartbeats 4000000 in
set_option maxRecDepth 20000 in
theorem lm_back (D : Nat) (M : Mem) (x : Int) (x0 : 0 ≤ x) (x1 : x < 2) : ∀ i : Int, 0 ≤ i → i ≤ 53 → Wp (D + 1) 185 (26, [some (.inr (.inr 80)), some (.inl x), some (.inl i)], [], setC M 81 (cpF (M 81) (fun z => M 82 (53 * x + z)) i)) (fun r M' => ∃ v, r = some (.inl v) ∧ (v = M 82 (53 * x + 0) ∧ M' = setC M 81 (cpF (M 81) (fun z => M 82 (53 * x + z)) 53))) := by
  refine loopZ 53 ?_
  intro i h0 h1 ih
  refine w_iload_n ta_185 rfl rfl ?_
  refine w_bipush ta_185 rfl ?_
  refine w_icmp_ge ta_185 rfl ⟨by omega, by omega⟩ ⟨by omega, by omega⟩ (fun h29 => ?_) (fun h29 => ?_)
  · refine w_aload_n ta_185 rfl rfl ?_
    refine w_getR ta_185 rfl rfl ?_
    refine w_iconst ta_185 rfl ?_
    refine w_ialoadv (v := M 82 (53 * x + 0)) ta_185 rfl rfl (by decide) (by decide) (by omega) (by rw [sc_s, cpF_at (by omega) (by omega)]) ?_
    refine w_iret ta_185 rfl (Or.inl rfl) ?_
    exact ⟨_, rfl, rfl, by rw [show i = 53 by omega]⟩
  · refine w_aload_n ta_185 rfl rfl ?_
    refine w_getR ta_185 rfl rfl ?_
    refine w_iload_n ta_185 rfl rfl ?_
    refine w_aload_n ta_185 rfl rfl ?_
    refine w_getR ta_185 rfl rfl ?_
    refine w_bipush ta_185 rfl ?_
    refine w_iload_n ta_185 rfl rfl ?_
    refine w_imul ta_185 rfl ?_
    refine w_iload_n ta_185 rfl rfl ?_
    refine w_iadd ta_185 rfl ?_
    refine w_ialoadv (v := (fun z => M 82 (53 * x + z)) i) ta_185 rfl rfl (by omega) (by omega) (by omega) (by rw [sc_n _ _ (by decide)]) ?_
    refine w_iastore ta_185 rfl rfl (by omega) (by omega) (by omega) ?_
    refine w_iinc_2_3 ta_185 rfl rfl ?_
    refine w_goto ta_185 rfl ?_
    rw [wr_sc, cpF_s _ _ h0]
    exact ih h29
set_option maxHeartbeats 4000000 in
set_option maxRecDepth 20000 in
theorem cm_backP (D : Nat) (M : Mem) (x : Int) (hx : inR x) (b : ∀ j, 0 ≤ j → j < 2 → M 83 j = 0 ∨ M 83 j = 1) : CI (D + 1) 185 [.inr (.inr 80), .inl x] M (fun v M' => (¬ (0 ≤ x ∧ x < 2) ∧ v = -1 ∧ M' = M) ∨ ((0 ≤ x ∧ x < 2) ∧ M 83 x = 0 ∧ v = -2 ∧ M' = M) ∨ ((0 ≤ x ∧ x < 2) ∧ M 83 x = 1 ∧ v = M 82 (53 * x + 0) ∧ M' = setC M 81 (cpF (M 81) (fun z => M 82 (53 * x + z)) 53))) := by
  refine mk_C mt_185 rfl (Nat.le_of_ble_eq_true rfl) (L := [some _, some _, none]) rfl ?_
  obtain ⟨x0, x1⟩ := id hx
  refine w_iload_n ta_185 rfl rfl ?_
  refine w_i2l ta_185 rfl ⟨by omega, by omega⟩ ?_
  refine w_lconst ta_185 rfl ?_
  refine w_lconst ta_185 rfl ?_
  refine w_cI [_, _, _] _ ta_185 rfl rfl rfl mt_106 rfl rfl rfl rfl (Nat.le_of_ble_eq_true rfl) (fun q => by cases q) rfl (cm_in _ x 0 1 M (by constructor <;> omega) (by constructor <;> omega) (by constructor <;> omega)) ?_
  rintro v M2 ⟨hv, rfl⟩
  refine w_if_ne ta_185 rfl ⟨by omega, by omega⟩ (fun h7 => ?_) (fun h7 => ?_)
  · refine w_aload_n ta_185 rfl rfl ?_
    refine w_getR ta_185 rfl rfl ?_
    refine w_iload_n ta_185 rfl rfl ?_
    have bb := b x (by omega) (by omega)
    refine w_baload ta_185 rfl rfl (by omega) (by omega) (by omega) ?_
    refine w_if_ne ta_185 rfl ⟨by omega, by omega⟩ (fun h18 => ?_) (fun h18 => ?_)
    · refine w_iconst ta_185 rfl ?_
      refine w_istn_2_3 ta_185 rfl rfl ?_
      have q := lm_back D M2 x (by omega) (by omega) 0 (by omega) (by omega)
      rw [cpF_0, sc_id] at q
      refine q.imp ?_
      rintro r M4 ⟨u, hr, hu, hM⟩
      exact ⟨u, hr, Or.inr (Or.inr ⟨by omega, by omega, hu, hM⟩)⟩
    · refine w_bipush ta_185 rfl ?_
      refine w_iret ta_185 rfl (Or.inl rfl) ?_
      exact ⟨_, rfl, Or.inr (Or.inl ⟨by omega, by omega, rfl, rfl⟩)⟩
  · refine w_iconst ta_185 rfl ?_
    refine w_iret ta_185 rfl (Or.inl rfl) ?_
    exact ⟨_, rfl, Or.inl ⟨by omega, rfl, rfl⟩⟩
