/-! way 2, the reference -/
theorem hld_s {x c : Int} {b : Bool} : x + (if b then 1 else 0) * c = x + if b then c else 0 := by cases b <;> simp
set_option maxHeartbeats 4000000 in
set_option maxRecDepth 20000 in
theorem lm_holds (D : Nat) (M : Mem) (hI : MdI M) (p : Int → Bool) : ∀ i : Int, 0 ≤ i → i ≤ M 81 0 → Wp D 144 (4, [some (.inr (.inr 80)), some (.inl (bP p (M 81 0))), some (.inl (sumZ (fun i => if p i then mC M i else 0) i)), some (.inl i)], [], M) (fun r M' => ∃ v, r = some (.inl v) ∧ (v = sP (mC M) p (M 81 0) ∧ M' = M)) := by
  obtain ⟨n0, n1, k0, k1, f0, f1, r0, r1, s0, s1, hA⟩ := id hI
  refine loopZ (M 81 0) ?_
  intro i h0 h1 ih
  refine w_iload_n ta_144 rfl rfl ?_
  refine w_aload_n ta_144 rfl rfl ?_
  refine w_getR ta_144 rfl rfl ?_
  refine w_iconst ta_144 rfl ?_
  refine w_iaload ta_144 rfl rfl (by decide) (by decide) (by omega) ?_
  refine w_icmp_ge ta_144 rfl ⟨by omega, by omega⟩ ⟨by omega, by omega⟩ (fun h11 => ?_) (fun h11 => ?_)
  · refine w_iload_n ta_144 rfl rfl ?_
    refine w_iret ta_144 rfl (Or.inl rfl) ?_
    exact ⟨_, rfl, by rw [show i = M 81 0 by omega]; rfl, rfl⟩
  · have ih := ih h11
    rw [sumZ_s _ h0] at ih
    refine w_iload_n ta_144 rfl rfl ?_
    refine w_iload_n ta_144 rfl rfl ?_
    refine w_iload_n ta_144 rfl rfl ?_
    refine w_ishr ta_144 rfl (by omega) (by omega) ?_
    refine w_iconst ta_144 rfl ?_
    refine w_iand ta_144 rfl ?_
    rw [bP_bit p n1 h0 h11]
    refine w_aload_n ta_144 rfl rfl ?_
    refine w_getR ta_144 rfl rfl ?_
    refine w_iconst ta_144 rfl ?_
    refine w_iload_n ta_144 rfl rfl ?_
    refine w_iadd ta_144 rfl ?_
    refine w_iaload ta_144 rfl rfl (by omega) (by omega) (by omega) ?_
    refine w_imul ta_144 rfl ?_
    refine w_iadd ta_144 rfl ?_
    rw [hld_s]
    refine w_istn_2_4 ta_144 rfl rfl ?_
    refine w_iinc_3_4 ta_144 rfl rfl ?_
    refine w_goto ta_144 rfl ?_
    exact ih
set_option maxHeartbeats 4000000 in
set_option maxRecDepth 20000 in
theorem cm_holds (D : Nat) (M : Mem) (hI : MdI M) (p : Int → Bool) : CI D 144 [.inr (.inr 80), .inl (bP p (M 81 0))] M (fun v M' => v = sP (mC M) p (M 81 0) ∧ M' = M) := by
  refine mk_C mt_144 rfl (Nat.le_of_ble_eq_true rfl) (L := [some _, some _, none, none]) rfl ?_
  obtain ⟨n0, n1, k0, k1, f0, f1, r0, r1, s0, s1, hA⟩ := id hI
  refine w_iconst ta_144 rfl ?_
  refine w_istn_2_4 ta_144 rfl rfl ?_
  refine w_iconst ta_144 rfl ?_
  refine w_istn_3_4 ta_144 rfl rfl ?_
  exact lm_holds D M hI p 0 (by omega) n0
set_option maxHeartbeats 4000000 in
set_option maxRecDepth 20000 in
theorem cm_isAhead (D : Nat) (M : Mem) (hI : MdI M) (p q : Int → Bool) : CI (D + 1) 145 [.inr (.inr 80), .inl (bP p (M 81 0)), .inl (bP q (M 81 0))] M (fun v M' => ((v = 1 ∧ dK (mC M) (M 81 0) q < dK (mC M) (M 81 0) p) ∨ (v = 0 ∧ dK (mC M) (M 81 0) p ≤ dK (mC M) (M 81 0) q)) ∧ M' = M) := by
  refine mk_C mt_145 rfl (Nat.le_of_ble_eq_true rfl) (L := [some _, some _, some _, none, none]) rfl ?_
  obtain ⟨n0, n1, k0, k1, f0, f1, r0, r1, s0, s1, hA⟩ := id hI
  have hc : ∀ i, 0 ≤ i → i < M 81 0 → 1 ≤ mC M i ∧ mC M i ≤ 999 := (fun i i0 i1 => by have := hA i i0 i1; show 1 ≤ M 81 (5 + i) ∧ M 81 (5 + i) ≤ 999; omega)
  have lt := dK_lt (ch := mC M) p q n1
  have b1 := sP_b (ch := mC M) p n1 hc
  have b2 := sP_b (ch := mC M) q n1 hc
  have l1 := lwP_b p n1
  have l2 := lwP_b q n1
  have z1 : sP (mC M) p (M 81 0) = 0 → sP (mC M) q (M 81 0) = 0 → lwP p (M 81 0) = 0 ∧ lwP q (M 81 0) = 0 := by
    have f : ∀ p : Int → Bool, sP (mC M) p (M 81 0) = 0 → lwP p (M 81 0) = 0 := fun p hz => (lwP_0 (fun i i0 i1 => by
      cases hb : p i
      · rfl
      · have := sP_pos hc i0 i1 hb
        omega)).2
    exact fun a b => ⟨f p a, f q b⟩
  refine w_aload_n ta_145 rfl rfl ?_
  refine w_iload_n ta_145 rfl rfl ?_
  refine w_cI [_, _] _ ta_145 rfl rfl rfl mt_144 rfl rfl rfl rfl (Nat.le_of_ble_eq_true rfl) (fun _ => rfl) rfl (cm_holds _ M hI p) ?_
  rintro v M2 ⟨hv, rfl⟩
  refine w_istn_3_5 ta_145 rfl rfl ?_
  refine w_aload_n ta_145 rfl rfl ?_
  refine w_iload_n ta_145 rfl rfl ?_
  refine w_cI [_, _] _ ta_145 rfl rfl rfl mt_144 rfl rfl rfl rfl (Nat.le_of_ble_eq_true rfl) (fun _ => rfl) rfl (cm_holds _ M2 hI q) ?_
  rintro w M3 ⟨hw, rfl⟩
  rw [← hv, ← hw] at lt
  rw [← hv, ← hw] at z1
  rw [← hv] at b1
  rw [← hw] at b2
  refine w_ist_4_5 ta_145 rfl rfl ?_
  refine w_iload_n ta_145 rfl rfl ?_
  refine w_iload ta_145 rfl rfl ?_
  refine w_icmp_gt ta_145 rfl ⟨by omega, by omega⟩ ⟨by omega, by omega⟩ (fun h16 => ?_) (fun h16 => ?_)
  · refine w_iconst ta_145 rfl ?_
    refine w_goto ta_145 rfl ?_
    refine w_iret ta_145 rfl (Or.inr ⟨rfl, by omega⟩) ?_
    refine ⟨_, rfl, ?_, rfl⟩
    first
      | (refine Or.inl ⟨rfl, lt.mpr ?_⟩; omega)
      | (refine Or.inr ⟨rfl, Int.not_lt.mp (fun z => ?_)⟩; have := lt.mp z; omega)
      | (refine Or.inr ⟨rfl, Int.not_lt.mp (fun z => ?_)⟩; have := lt.mp z; have := z1 (by omega) (by omega); omega)
  · refine w_iload_n ta_145 rfl rfl ?_
    refine w_iload ta_145 rfl rfl ?_
    refine w_icmp_ne ta_145 rfl ⟨by omega, by omega⟩ ⟨by omega, by omega⟩ (fun h22 => ?_) (fun h22 => ?_)
    · refine w_iconst ta_145 rfl ?_
      refine w_iret ta_145 rfl (Or.inr ⟨rfl, by omega⟩) ?_
      refine ⟨_, rfl, ?_, rfl⟩
      first
        | (refine Or.inl ⟨rfl, lt.mpr ?_⟩; omega)
        | (refine Or.inr ⟨rfl, Int.not_lt.mp (fun z => ?_)⟩; have := lt.mp z; omega)
        | (refine Or.inr ⟨rfl, Int.not_lt.mp (fun z => ?_)⟩; have := lt.mp z; have := z1 (by omega) (by omega); omega)
    · refine w_iload_n ta_145 rfl rfl ?_
      refine w_if_le ta_145 rfl ⟨by omega, by omega⟩ (fun h26 => ?_) (fun h26 => ?_)
      · refine w_iconst ta_145 rfl ?_
        refine w_iret ta_145 rfl (Or.inr ⟨rfl, by omega⟩) ?_
        refine ⟨_, rfl, ?_, rfl⟩
        first
          | (refine Or.inl ⟨rfl, lt.mpr ?_⟩; omega)
          | (refine Or.inr ⟨rfl, Int.not_lt.mp (fun z => ?_)⟩; have := lt.mp z; omega)
          | (refine Or.inr ⟨rfl, Int.not_lt.mp (fun z => ?_)⟩; have := lt.mp z; have := z1 (by omega) (by omega); omega)
      · refine w_iload_n ta_145 rfl rfl ?_
        refine w_iload_n ta_145 rfl rfl ?_
        refine w_ineg ta_145 rfl ?_
        refine w_iand ta_145 rfl ?_
        refine w_iload_n ta_145 rfl rfl ?_
        refine w_iload_n ta_145 rfl rfl ?_
        refine w_ineg ta_145 rfl ?_
        refine w_iand ta_145 rfl ?_
        rw [show iAnd (bP p (M3 81 0)) (-bP p (M3 81 0)) = lwP p (M3 81 0) from rfl, show iAnd (bP q (M3 81 0)) (-bP q (M3 81 0)) = lwP q (M3 81 0) from rfl]
        refine w_icmp_ge ta_145 rfl ⟨by omega, by omega⟩ ⟨by omega, by omega⟩ (fun h37 => ?_) (fun h37 => ?_)
        · refine w_iconst ta_145 rfl ?_
          refine w_iret ta_145 rfl (Or.inr ⟨rfl, by omega⟩) ?_
          refine ⟨_, rfl, ?_, rfl⟩
          first
            | (refine Or.inl ⟨rfl, lt.mpr ?_⟩; omega)
            | (refine Or.inr ⟨rfl, Int.not_lt.mp (fun z => ?_)⟩; have := lt.mp z; omega)
            | (refine Or.inr ⟨rfl, Int.not_lt.mp (fun z => ?_)⟩; have := lt.mp z; have := z1 (by omega) (by omega); omega)
        · refine w_iconst ta_145 rfl ?_
          refine w_goto ta_145 rfl ?_
          refine w_iret ta_145 rfl (Or.inr ⟨rfl, by omega⟩) ?_
          refine ⟨_, rfl, ?_, rfl⟩
          first
            | (refine Or.inl ⟨rfl, lt.mpr ?_⟩; omega)
            | (refine Or.inr ⟨rfl, Int.not_lt.mp (fun z => ?_)⟩; have := lt.mp z; omega)
            | (refine Or.inr ⟨rfl, Int.not_lt.mp (fun z => ?_)⟩; have := lt.mp z; have := z1 (by omega) (by omega); omega)
def MP (N : Mem) (n k : Int) (H part : Int → Int) : Prop := (∀ p, 0 ≤ p → p < n → N 91 p = part p) ∧ ∀ p g, 0 ≤ p → p < n → part p = 1 → 0 ≤ g → g < k → N 90 (5 * p + g) = bP (pr H (5 * p + g)) n
set_option maxHeartbeats 4000000 in
set_option maxRecDepth 20000 in
theorem cm_differenceOf (D : Nat) (M : Mem) (hI : MdI M) (H part : Int → Int) (pp : ∀ p, part p = 0 ∨ part p = 1) (hM : MP M (M 81 0) (M 81 1) H part) (p : Int) (p0 : 0 ≤ p) (p1 : p < M 81 0) (hp : part p = 1) : CI (D + 1) 146 [.inr (.inr 80), .inl p] M (fun v M' => v = dD (mC M) (M 81 0) (M 81 1) H p ∧ M' = M) := by
  refine mk_C mt_146 rfl (Nat.le_of_ble_eq_true rfl) (L := [some _, some _]) rfl ?_
  obtain ⟨n0, n1, k0, k1, f0, f1, r0, r1, s0, s1, hA⟩ := id hI
  refine w_aload_n ta_146 rfl rfl ?_
  refine w_aload_n ta_146 rfl rfl ?_
  refine w_getR ta_146 rfl rfl ?_
  refine w_iconst ta_146 rfl ?_
  refine w_iload_n ta_146 rfl rfl ?_
  refine w_imul ta_146 rfl ?_
  refine w_ialoadv (v := bP (pr H (5 * p + 0)) (M 81 0)) ta_146 rfl rfl (by omega) (by omega) (by omega) (by have q := hM.2 p 0 p0 p1 hp (by omega) (by omega); rw [Int.add_zero] at q ⊢; exact q) ?_
  refine w_cI [_, _] _ ta_146 rfl rfl rfl mt_144 rfl rfl rfl rfl (Nat.le_of_ble_eq_true rfl) (fun _ => rfl) rfl (cm_holds _ M hI _) ?_
  rintro v M2 ⟨hv, rfl⟩
  refine w_aload_n ta_146 rfl rfl ?_
  refine w_aload_n ta_146 rfl rfl ?_
  refine w_getR ta_146 rfl rfl ?_
  refine w_iconst ta_146 rfl ?_
  refine w_iload_n ta_146 rfl rfl ?_
  refine w_imul ta_146 rfl ?_
  refine w_aload_n ta_146 rfl rfl ?_
  refine w_getR ta_146 rfl rfl ?_
  refine w_iconst ta_146 rfl ?_
  refine w_iaload ta_146 rfl rfl (by decide) (by decide) (by omega) ?_
  refine w_iadd ta_146 rfl ?_
  refine w_iconst ta_146 rfl ?_
  refine w_isub ta_146 rfl ?_
  refine w_ialoadv (v := bP (pr H (5 * p + (M2 81 1 - 1))) (M2 81 0)) ta_146 rfl rfl (by omega) (by omega) (by omega) (by rw [show 5 * p + M2 81 1 - 1 = 5 * p + (M2 81 1 - 1) by omega]; exact hM.2 p _ p0 p1 hp (by omega) (by omega)) ?_
  refine w_cI [_, _] _ ta_146 rfl rfl rfl mt_144 rfl rfl rfl rfl (Nat.le_of_ble_eq_true rfl) (fun _ => rfl) rfl (cm_holds _ M2 hI _) ?_
  rintro w M3 ⟨hw, rfl⟩
  refine w_isub ta_146 rfl ?_
  refine w_iret ta_146 rfl (Or.inl rfl) ?_
  exact ⟨_, rfl, by rw [hv, hw]; rfl, rfl⟩
set_option maxHeartbeats 4000000 in
set_option maxRecDepth 20000 in
theorem lm_widest (D : Nat) (M : Mem) (hI : MdI M) (H part : Int → Int) (pp : ∀ p, part p = 0 ∨ part p = 1) (hM : MP M (M 81 0) (M 81 1) H part) (but : Int) (hb : inR but) : ∀ i : Int, 0 ≤ i → i ≤ M 81 0 → Wp (D + 2) 147 (5, [some (.inr (.inr 80)), some (.inl but), some (.inl (stZ (dU part but) (dD (mC M) (M 81 0) (M 81 1) H) i 1)), some (.inl i)], [], M) (fun r M' => ∃ v, r = some (.inl v) ∧ (v = dW (mC M) (M 81 0) (M 81 1) H part but ∧ M' = M)) := by
  obtain ⟨n0, n1, k0, k1, f0, f1, r0, r1, s0, s1, hA⟩ := id hI
  have hc : ∀ i, 0 ≤ i → i < M 81 0 → 1 ≤ mC M i ∧ mC M i ≤ 999 := (fun i i0 i1 => by have := hA i i0 i1; show 1 ≤ M 81 (5 + i) ∧ M 81 (5 + i) ≤ 999; omega)
  refine loopZ (M 81 0) ?_
  intro i h0 h1 ih
  refine w_iload_n ta_147 rfl rfl ?_
  refine w_aload_n ta_147 rfl rfl ?_
  refine w_getR ta_147 rfl rfl ?_
  refine w_iconst ta_147 rfl ?_
  refine w_iaload ta_147 rfl rfl (by decide) (by decide) (by omega) ?_
  refine w_icmp_ge ta_147 rfl ⟨by omega, by omega⟩ ⟨by omega, by omega⟩ (fun h12 => ?_) (fun h12 => ?_)
  · refine w_iload_n ta_147 rfl rfl ?_
    refine w_iret ta_147 rfl (Or.inl rfl) ?_
    exact ⟨_, rfl, by rw [show i = M 81 0 by omega]; rfl, rfl⟩
  · obtain ⟨b0, b1⟩ := id hb
    have pi := pp i
    have sb := stZ_b (dU part but) (dD (mC M) (M 81 0) (M 81 1) H) 1 h0
    have ih := ih h12
    rw [stZ_s _ _ _ h0] at ih
    refine w_aload_n ta_147 rfl rfl ?_
    refine w_getR ta_147 rfl rfl ?_
    refine w_iload_n ta_147 rfl rfl ?_
    refine w_baloadv (v := part i) ta_147 rfl rfl (by omega) (by omega) (by omega) (hM.1 i h0 h12) ?_
    refine w_if_eq ta_147 rfl ⟨by omega, by omega⟩ (fun h21 => ?_) (fun h21 => ?_)
    · rw [if_neg (fun q => by have := q.1; unfold dU at this; rw [if_neg (by omega)] at this; omega)] at ih
      refine w_iinc_3_4 ta_147 rfl rfl ?_
      refine w_goto ta_147 rfl ?_
      exact ih
    · have hpi : part i = 1 := by omega
      refine w_iload_n ta_147 rfl rfl ?_
      refine w_iload_n ta_147 rfl rfl ?_
      refine w_icmp_eq ta_147 rfl ⟨by omega, by omega⟩ ⟨by omega, by omega⟩ (fun h26 => ?_) (fun h26 => ?_)
      · rw [if_neg (fun q => by have := q.1; unfold dU at this; rw [if_neg (by omega)] at this; omega)] at ih
        refine w_iinc_3_4 ta_147 rfl rfl ?_
        refine w_goto ta_147 rfl ?_
        exact ih
      · have hu : dU part but i = 1 := if_pos ⟨hpi, h26⟩
        refine w_iload_n ta_147 rfl rfl ?_
        refine w_bipush ta_147 rfl ?_
        refine w_icmp_eq ta_147 rfl ⟨by omega, by omega⟩ ⟨by omega, by omega⟩ (fun h32 => ?_) (fun h32 => ?_)
        · rw [if_pos ⟨hu, Or.inl h32⟩] at ih
          refine w_iload_n ta_147 rfl rfl ?_
          refine w_istn_2_4 ta_147 rfl rfl ?_
          refine w_iinc_3_4 ta_147 rfl rfl ?_
          refine w_goto ta_147 rfl ?_
          exact ih
        · have sb := sb.resolve_left h32
          have su := sb.2.2
          unfold dU at su
          have sq : part (stZ (dU part but) (dD (mC M) (M 81 0) (M 81 1) H) i 1) = 1 := by
            unfold dU
            refine Classical.byContradiction fun z => ?_
            rw [if_neg (fun q => z q.1)] at su
            omega
          refine w_aload_n ta_147 rfl rfl ?_
          refine w_iload_n ta_147 rfl rfl ?_
          refine w_cI [_, _] _ ta_147 rfl rfl rfl mt_146 rfl rfl rfl rfl (Nat.le_of_ble_eq_true rfl) (fun _ => rfl) rfl (cm_differenceOf _ M hI H part pp hM i h0 h12 (by omega)) ?_
          rintro v M2 ⟨ev, rfl⟩
          have bv1 := sP_b (ch := mC M2) (pr H (5 * i + 0)) n1 hc
          have bv2 := sP_b (ch := mC M2) (pr H (5 * i + (M2 81 1 - 1))) n1 hc
          have vb : -16000 ≤ v ∧ v ≤ 16000 := by rw [ev]; unfold dD; omega
          refine w_aload_n ta_147 rfl rfl ?_
          refine w_iload_n ta_147 rfl rfl ?_
          refine w_cI [_, _] _ ta_147 rfl rfl rfl mt_146 rfl rfl rfl rfl (Nat.le_of_ble_eq_true rfl) (fun _ => rfl) rfl (cm_differenceOf _ M2 hI H part pp hM _ sb.1 (by omega) sq) ?_
          rintro w M3 ⟨ew, rfl⟩
          have bw1 := sP_b (ch := mC M3) (pr H (5 * (stZ (dU part but) (dD (mC M3) (M3 81 0) (M3 81 1) H) i 1) + 0)) n1 hc
          have bw2 := sP_b (ch := mC M3) (pr H (5 * (stZ (dU part but) (dD (mC M3) (M3 81 0) (M3 81 1) H) i 1) + (M3 81 1 - 1))) n1 hc
          have ew2 : w = sP (mC M3) (pr H (5 * (stZ (dU part but) (dD (mC M3) (M3 81 0) (M3 81 1) H) i 1) + 0)) (M3 81 0) - sP (mC M3) (pr H (5 * (stZ (dU part but) (dD (mC M3) (M3 81 0) (M3 81 1) H) i 1) + (M3 81 1 - 1))) (M3 81 0) := ew
          have wb : -16000 ≤ w ∧ w ≤ 16000 := by omega
          refine w_icmp_le ta_147 rfl ⟨by omega, by omega⟩ ⟨by omega, by omega⟩ (fun h45 => ?_) (fun h45 => ?_)
          · rw [if_neg (fun q => by have := q.2.resolve_left h32; omega)] at ih
            refine w_iinc_3_4 ta_147 rfl rfl ?_
            refine w_goto ta_147 rfl ?_
            exact ih
          · rw [if_pos ⟨hu, Or.inr (by omega)⟩] at ih
            refine w_iload_n ta_147 rfl rfl ?_
            refine w_istn_2_4 ta_147 rfl rfl ?_
            refine w_iinc_3_4 ta_147 rfl rfl ?_
            refine w_goto ta_147 rfl ?_
            exact ih
set_option maxHeartbeats 4000000 in
set_option maxRecDepth 20000 in
theorem cm_widest (D : Nat) (M : Mem) (hI : MdI M) (H part : Int → Int) (pp : ∀ p, part p = 0 ∨ part p = 1) (hM : MP M (M 81 0) (M 81 1) H part) (but : Int) (hb : inR but) : CI (D + 2) 147 [.inr (.inr 80), .inl but] M (fun v M' => v = dW (mC M) (M 81 0) (M 81 1) H part but ∧ M' = M) := by
  refine mk_C mt_147 rfl (Nat.le_of_ble_eq_true rfl) (L := [some _, some _, none, none]) rfl ?_
  obtain ⟨n0, n1, k0, k1, f0, f1, r0, r1, s0, s1, hA⟩ := id hI
  refine w_bipush ta_147 rfl ?_
  refine w_istn_2_4 ta_147 rfl rfl ?_
  refine w_iconst ta_147 rfl ?_
  refine w_istn_3_4 ta_147 rfl rfl ?_
  exact lm_widest D M hI H part pp hM but hb 0 (by omega) n0
set_option maxHeartbeats 4000000 in
set_option maxRecDepth 20000 in
theorem lm_order2 (D : Nat) (M : Mem) (hI : MdI M) (H : Int → Int) (a b : Int) (a0 : 0 ≤ a) (an : a < M 81 0) (P : Option AV → Mem → Prop) (u : Int) (u0 : 0 ≤ u) (u1 : u < M 81 1) (hP : ∀ Z s q, (∀ c, c ≠ 90 → Z c = M c) → (∀ z, ¬ (5 * a ≤ z ∧ z < 5 * a + M 81 1) → Z 90 z = M 90 z) → PermF s (M 81 1) → (∀ i, 0 ≤ i → i < M 81 1 → 0 ≤ s i ∧ s i < M 81 1) → (∀ j, 0 ≤ j → j < M 81 1 → Z 90 (5 * a + j) = bP (mp H (M 81 1) a b (s j)) (M 81 0)) → ExI (fun i => mK (mC M) (M 81 0) (M 81 1) H a b (s i)) (M 81 1) u (M 81 1) → Wp (D + 2) 148 (100, [some (.inr (.inr 80)), some (.inl a), some (.inl (5 * a)), some (.inl u), some (.inl (M 81 1)), q], [], Z) P) : ∀ w : Int, u + 1 ≤ w → w ≤ M 81 1 → ∀ Z s q, (∀ c, c ≠ 90 → Z c = M c) → (∀ z, ¬ (5 * a ≤ z ∧ z < 5 * a + M 81 1) → Z 90 z = M 90 z) → PermF s (M 81 1) → (∀ i, 0 ≤ i → i < M 81 1 → 0 ≤ s i ∧ s i < M 81 1) → (∀ j, 0 ≤ j → j < M 81 1 → Z 90 (5 * a + j) = bP (mp H (M 81 1) a b (s j)) (M 81 0)) → ExI (fun i => mK (mC M) (M 81 0) (M 81 1) H a b (s i)) (M 81 1) u w → Wp (D + 2) 148 (21, [some (.inr (.inr 80)), some (.inl a), some (.inl (5 * a)), some (.inl u), some (.inl w), q], [], Z) P := by
  obtain ⟨n0, n1, k0, k1, f0, f1, r0, r1, s0, s1, hA⟩ := id hI
  refine loopO (u + 1) (M 81 1) ?_
  intro w h0 h1 ih Z s q hF hO hp hr hV hE
  refine w_iload ta_148 rfl rfl ?_
  refine w_aload_n ta_148 rfl rfl ?_
  refine w_getR ta_148 rfl rfl ?_
  refine w_iconst ta_148 rfl ?_
  refine w_ialoadv (v := M 81 1) ta_148 rfl rfl (by decide) (by decide) (by omega) (by rw [hF 81 (by decide)]) ?_
  refine w_icmp_ge ta_148 rfl ⟨by omega, by omega⟩ ⟨by omega, by omega⟩ (fun h29 => ?_) (fun h29 => ?_)
  · have e : w = M 81 1 := by omega
    subst e
    exact hP Z s q hF hO hp hr hV hE
  · have eZ : Z 81 = M 81 := hF 81 (by decide)
    have hIZ : MdI Z := hI.of eZ
    have eC : mC Z = mC M := by unfold mC; rw [eZ]
    refine w_aload_n ta_148 rfl rfl ?_
    refine w_aload_n ta_148 rfl rfl ?_
    refine w_getR ta_148 rfl rfl ?_
    refine w_iload_n ta_148 rfl rfl ?_
    refine w_iload ta_148 rfl rfl ?_
    refine w_iadd ta_148 rfl ?_
    refine w_ialoadv (v := bP (mp H (M 81 1) a b (s w)) (M 81 0)) ta_148 rfl rfl (by omega) (by omega) (by omega) (hV w (by omega) h29) ?_
    refine w_aload_n ta_148 rfl rfl ?_
    refine w_getR ta_148 rfl rfl ?_
    refine w_iload_n ta_148 rfl rfl ?_
    refine w_iload_n ta_148 rfl rfl ?_
    refine w_iadd ta_148 rfl ?_
    refine w_ialoadv (v := bP (mp H (M 81 1) a b (s u)) (M 81 0)) ta_148 rfl rfl (by omega) (by omega) (by omega) (hV u u0 u1) ?_
    refine w_cI [_, _, _] _ ta_148 rfl rfl rfl mt_145 rfl rfl rfl rfl (Nat.le_of_ble_eq_true rfl) (fun _ => rfl) rfl ((by have q := cm_isAhead D Z hIZ (mp H (M 81 1) a b (s w)) (mp H (M 81 1) a b (s u)); rw [eC, eZ] at q; exact q)) ?_
    rintro v Z2 ⟨hv, rfl⟩
    refine w_if_eq ta_148 rfl ⟨by omega, by omega⟩ (fun h53 => ?_) (fun h53 => ?_)
    · have hle : mK (mC M) (M 81 0) (M 81 1) H a b (s w) ≤ mK (mC M) (M 81 0) (M 81 1) H a b (s u) := by
        rcases hv with q | q
        · omega
        · exact q.2
      refine w_iinc_4_6 ta_148 rfl rfl ?_
      refine w_goto ta_148 rfl ?_
      first
        | exact ih h29 _ s q hF hO hp hr hV (hE.st hle)
        | (refine ih h29 _ (xcF s u w) _ (fun c cc => by rw [wr_n _ _ _ cc, wr_n _ _ _ cc]; exact hF c cc) (fun z hz => ?_) (hp.xc u0 u1 (by omega) h29) (fun i i0 i1 => ?_) (fun j j0 j1 => ?_) ?_
           · rw [wr_s, up_n _ _ (by omega), wr_s, up_n _ _ (by omega)]; exact hO z hz
           · have q1 := hr i i0 i1
             have q2 := hr u u0 u1
             have q3 := hr w (by omega) h29
             unfold xcF upI
             split
             · exact q2
             · split
               · exact q3
               · exact q1
           · have q1 := hV j j0 j1
             rw [wr_s, wr_s]
             unfold xcF upI
             by_cases z : j = w
             · rw [if_pos (by omega), if_pos z]
             · rw [if_neg (by omega), if_neg z]
               by_cases z2 : j = u
               · rw [if_pos (by omega), if_pos z2]
               · rw [if_neg (by omega), if_neg z2]; exact q1
           · have qq := hE.sw u0 (by omega) h29 hlt
             refine (congrArg (fun q => ExI q (M 81 1) u (w + 1)) ?_).mp qq
             funext i
             unfold xcF upI
             simp only
             split
             · rfl
             · split <;> rfl)
    · have hlt : mK (mC M) (M 81 0) (M 81 1) H a b (s u) < mK (mC M) (M 81 0) (M 81 1) H a b (s w) := by
        rcases hv with q | q
        · exact q.2
        · omega
      refine w_aload_n ta_148 rfl rfl ?_
      refine w_getR ta_148 rfl rfl ?_
      refine w_iload_n ta_148 rfl rfl ?_
      refine w_iload_n ta_148 rfl rfl ?_
      refine w_iadd ta_148 rfl ?_
      refine w_ialoadv (v := bP (mp H (M 81 1) a b (s u)) (M 81 0)) ta_148 rfl rfl (by omega) (by omega) (by omega) (hV u u0 u1) ?_
      refine w_ist_5_6 ta_148 rfl rfl ?_
      refine w_aload_n ta_148 rfl rfl ?_
      refine w_getR ta_148 rfl rfl ?_
      refine w_iload_n ta_148 rfl rfl ?_
      refine w_iload_n ta_148 rfl rfl ?_
      refine w_iadd ta_148 rfl ?_
      refine w_aload_n ta_148 rfl rfl ?_
      refine w_getR ta_148 rfl rfl ?_
      refine w_iload_n ta_148 rfl rfl ?_
      refine w_iload ta_148 rfl rfl ?_
      refine w_iadd ta_148 rfl ?_
      refine w_ialoadv (v := bP (mp H (M 81 1) a b (s w)) (M 81 0)) ta_148 rfl rfl (by omega) (by omega) (by omega) (hV w (by omega) h29) ?_
      refine w_iastore ta_148 rfl rfl (by omega) (by omega) (by omega) ?_
      refine w_aload_n ta_148 rfl rfl ?_
      refine w_getR ta_148 rfl rfl ?_
      refine w_iload_n ta_148 rfl rfl ?_
      refine w_iload ta_148 rfl rfl ?_
      refine w_iadd ta_148 rfl ?_
      refine w_iload ta_148 rfl rfl ?_
      refine w_iastore ta_148 rfl rfl (by omega) (by omega) (by omega) ?_
      refine w_iinc_4_6 ta_148 rfl rfl ?_
      refine w_goto ta_148 rfl ?_
      first
        | exact ih h29 _ s q hF hO hp hr hV (hE.st hle)
        | (refine ih h29 _ (xcF s u w) _ (fun c cc => by rw [wr_n _ _ _ cc, wr_n _ _ _ cc]; exact hF c cc) (fun z hz => ?_) (hp.xc u0 u1 (by omega) h29) (fun i i0 i1 => ?_) (fun j j0 j1 => ?_) ?_
           · rw [wr_s, up_n _ _ (by omega), wr_s, up_n _ _ (by omega)]; exact hO z hz
           · have q1 := hr i i0 i1
             have q2 := hr u u0 u1
             have q3 := hr w (by omega) h29
             unfold xcF upI
             split
             · exact q2
             · split
               · exact q3
               · exact q1
           · have q1 := hV j j0 j1
             rw [wr_s, wr_s]
             unfold xcF upI
             by_cases z : j = w
             · rw [if_pos (by omega), if_pos z]
             · rw [if_neg (by omega), if_neg z]
               by_cases z2 : j = u
               · rw [if_pos (by omega), if_pos z2]
               · rw [if_neg (by omega), if_neg z2]; exact q1
           · have qq := hE.sw u0 (by omega) h29 hlt
             refine (congrArg (fun q => ExI q (M 81 1) u (w + 1)) ?_).mp qq
             funext i
             unfold xcF upI
             simp only
             split
             · rfl
             · split <;> rfl)
set_option maxHeartbeats 4000000 in
set_option maxRecDepth 20000 in
theorem lm_order1 (D : Nat) (M : Mem) (hI : MdI M) (H : Int → Int) (a b : Int) (a0 : 0 ≤ a) (an : a < M 81 0) (P : Option AV → Mem → Prop) (hP : ∀ Z s, (∀ c, c ≠ 90 → Z c = M c) → (∀ z, ¬ (5 * a ≤ z ∧ z < 5 * a + M 81 1) → Z 90 z = M 90 z) → PermF s (M 81 1) → (∀ i, 0 ≤ i → i < M 81 1 → 0 ≤ s i ∧ s i < M 81 1) → (∀ j, 0 ≤ j → j < M 81 1 → Z 90 (5 * a + j) = bP (mp H (M 81 1) a b (s j)) (M 81 0)) → Srt (fun i => mK (mC M) (M 81 0) (M 81 1) H a b (s i)) (M 81 1) → P none Z) : ∀ u : Int, 0 ≤ u → u ≤ M 81 1 → ∀ Z s q q2, isLg q = false → (∀ c, c ≠ 90 → Z c = M c) → (∀ z, ¬ (5 * a ≤ z ∧ z < 5 * a + M 81 1) → Z 90 z = M 90 z) → PermF s (M 81 1) → (∀ i, 0 ≤ i → i < M 81 1 → 0 ≤ s i ∧ s i < M 81 1) → (∀ j, 0 ≤ j → j < M 81 1 → Z 90 (5 * a + j) = bP (mp H (M 81 1) a b (s j)) (M 81 0)) → ExI (fun i => mK (mC M) (M 81 0) (M 81 1) H a b (s i)) (M 81 1) u (u + 1) → Wp (D + 2) 148 (6, [some (.inr (.inr 80)), some (.inl a), some (.inl (5 * a)), some (.inl u), q, q2], [], Z) P := by
  obtain ⟨n0, n1, k0, k1, f0, f1, r0, r1, s0, s1, hA⟩ := id hI
  refine loopZ (M 81 1) ?_
  intro u h0 h1 ih Z s q q2 hq hF hO hp hr hV hE
  refine w_iload_n ta_148 rfl rfl ?_
  refine w_aload_n ta_148 rfl rfl ?_
  refine w_getR ta_148 rfl rfl ?_
  refine w_iconst ta_148 rfl ?_
  refine w_ialoadv (v := M 81 1) ta_148 rfl rfl (by decide) (by decide) (by omega) (by rw [hF 81 (by decide)]) ?_
  refine w_icmp_ge ta_148 rfl ⟨by omega, by omega⟩ ⟨by omega, by omega⟩ (fun h13 => ?_) (fun h13 => ?_)
  · refine w_vret ta_148 rfl ?_
    have e : u = M 81 1 := by omega
    subst e
    exact hP Z s hF hO hp hr hV (fun i j i0 ij jk => hE.1 i j i0 ij jk (by omega))
  · refine w_iload_n ta_148 rfl rfl ?_
    refine w_iconst ta_148 rfl ?_
    refine w_iadd ta_148 rfl ?_
    refine w_ist_4_6 ta_148 rfl rfl ?_
    refine lm_order2 D M hI H a b a0 an P u h0 h13 ?_ (u + 1) (by omega) (by omega) Z s q2 hF hO hp hr hV hE
    intro Z s q hF hO hp hr hV hE
    refine w_iinc_3_6 ta_148 rfl rfl ?_
    refine w_goto ta_148 rfl ?_
    exact ih h13 Z s _ q rfl hF hO hp hr hV (hE.nx (Int.le_refl _))
set_option maxHeartbeats 4000000 in
set_option maxRecDepth 20000 in
theorem cm_order (D : Nat) (M : Mem) (hI : MdI M) (H : Int → Int) (a b : Int) (a0 : 0 ≤ a) (an : a < M 81 0) (hV : ∀ j, 0 ≤ j → j < M 81 1 → M 90 (5 * a + j) = bP (mp H (M 81 1) a b j) (M 81 0)) : CV (D + 2) 148 [.inr (.inr 80), .inl a] M (fun M' => ∃ s : Int → Int, (∀ c, c ≠ 90 → M' c = M c) ∧ (∀ z, ¬ (5 * a ≤ z ∧ z < 5 * a + M 81 1) → M' 90 z = M 90 z) ∧ PermF s (M 81 1) ∧ (∀ i, 0 ≤ i → i < M 81 1 → 0 ≤ s i ∧ s i < M 81 1) ∧ (∀ j, 0 ≤ j → j < M 81 1 → M' 90 (5 * a + j) = bP (mp H (M 81 1) a b (s j)) (M 81 0)) ∧ Srt (fun i => mK (mC M) (M 81 0) (M 81 1) H a b (s i)) (M 81 1)) := by
  refine mk_C mt_148 rfl (Nat.le_of_ble_eq_true rfl) (L := [some _, some _, none, none, none, none]) rfl ?_
  obtain ⟨n0, n1, k0, k1, f0, f1, r0, r1, s0, s1, hA⟩ := id hI
  refine w_iconst ta_148 rfl ?_
  refine w_iload_n ta_148 rfl rfl ?_
  refine w_imul ta_148 rfl ?_
  refine w_istn_2_6 ta_148 rfl rfl ?_
  refine w_iconst ta_148 rfl ?_
  refine w_istn_3_6 ta_148 rfl rfl ?_
  exact lm_order1 D M hI H a b a0 an _ (fun Z s hF hO hp hr hV hs => ⟨rfl, s, hF, hO, hp, hr, hV, hs⟩) 0 (by omega) (by omega) M (fun i => i) none none rfl (fun _ _ => rfl) (fun _ _ => rfl) (fun _ => rfl) (fun i i0 i1 => ⟨i0, i1⟩) hV ⟨fun i j i0 ij jk iu => by omega, fun j aj jb => by omega⟩
set_option maxHeartbeats 4000000 in
set_option maxRecDepth 20000 in
theorem lm_join (D : Nat) (M : Mem) (hI : MdI M) (H part : Int → Int) (m : Nat) (dI : DI (M 81 0) (M 81 1) m H part) (hM : MP M (M 81 0) (M 81 1) H part) (x y : Int) (x0 : 0 ≤ x) (x1 : x < M 81 0) (y0 : 0 ≤ y) (y1 : y < M 81 0) (xy : x ≠ y) (px : part x = 1) (py : part y = 1) (P : Option AV → Mem → Prop) (hP : ∀ Z, (∀ c, c ≠ 90 → Z c = M c) → (∀ z, ¬ (5 * mn x y ≤ z ∧ z < 5 * mn x y + M 81 1) → Z 90 z = M 90 z) → (∀ j, 0 ≤ j → j < M 81 1 → Z 90 (5 * mn x y + j) = bP (mp H (M 81 1) (mn x y) (mx x y) j) (M 81 0)) → Wp (D + 3) 149 (78, [some (.inr (.inr 80)), some (.inl x), some (.inl y), some (.inl (mn x y)), some (.inl (mx x y)), some (.inl (M 81 1))], [], Z) P) : ∀ g : Int, 0 ≤ g → g ≤ M 81 1 → ∀ Z, (∀ c, c ≠ 90 → Z c = M c) → (∀ z, ¬ (5 * mn x y ≤ z ∧ z < 5 * mn x y + g) → Z 90 z = M 90 z) → (∀ j, 0 ≤ j → j < g → Z 90 (5 * mn x y + j) = bP (mp H (M 81 1) (mn x y) (mx x y) j) (M 81 0)) → Wp (D + 3) 149 (26, [some (.inr (.inr 80)), some (.inl x), some (.inl y), some (.inl (mn x y)), some (.inl (mx x y)), some (.inl g)], [], Z) P := by
  obtain ⟨n0, n1, k0, k1, f0, f1, r0, r1, s0, s1, hA⟩ := id hI
  have e := mn_mx xy
  have pmn : part (mn x y) = 1 := by
    rcases e.2 with q | q
    · rw [q.1]; exact px
    · rw [q.1]; exact py
  have pmx : part (mx x y) = 1 := by
    rcases e.2 with q | q
    · rw [q.2]; exact py
    · rw [q.2]; exact px
  refine loopZ (M 81 1) ?_
  intro g h0 h1 ih Z hF hO hV
  refine w_iload ta_149 rfl rfl ?_
  refine w_aload_n ta_149 rfl rfl ?_
  refine w_getR ta_149 rfl rfl ?_
  refine w_iconst ta_149 rfl ?_
  refine w_ialoadv (v := M 81 1) ta_149 rfl rfl (by decide) (by decide) (by omega) (by rw [hF 81 (by decide)]) ?_
  refine w_icmp_ge ta_149 rfl ⟨by omega, by omega⟩ ⟨by omega, by omega⟩ (fun h34 => ?_) (fun h34 => ?_)
  · have ee : g = M 81 1 := by omega
    subst ee
    exact hP Z hF hO hV
  · refine w_aload_n ta_149 rfl rfl ?_
    refine w_getR ta_149 rfl rfl ?_
    refine w_iconst ta_149 rfl ?_
    refine w_iload_n ta_149 rfl rfl ?_
    refine w_imul ta_149 rfl ?_
    refine w_iload ta_149 rfl rfl ?_
    refine w_iadd ta_149 rfl ?_
    refine w_dup2 ta_149 rfl rfl rfl ?_
    refine w_ialoadv (v := bP (pr H (5 * mn x y + g)) (M 81 0)) ta_149 rfl rfl (by omega) (by omega) (by omega) (by rw [hO _ (by omega)]; exact hM.2 _ g (by omega) (by omega) pmn h0 h34) ?_
    refine w_aload_n ta_149 rfl rfl ?_
    refine w_getR ta_149 rfl rfl ?_
    refine w_iconst ta_149 rfl ?_
    refine w_iload ta_149 rfl rfl ?_
    refine w_imul ta_149 rfl ?_
    refine w_aload_n ta_149 rfl rfl ?_
    refine w_getR ta_149 rfl rfl ?_
    refine w_iconst ta_149 rfl ?_
    refine w_ialoadv (v := M 81 1) ta_149 rfl rfl (by decide) (by decide) (by omega) (by rw [hF 81 (by decide)]) ?_
    refine w_iadd ta_149 rfl ?_
    refine w_iconst ta_149 rfl ?_
    refine w_isub ta_149 rfl ?_
    refine w_iload ta_149 rfl rfl ?_
    refine w_isub ta_149 rfl ?_
    refine w_ialoadv (v := bP (pr H (5 * mx x y + (M 81 1 - 1 - g))) (M 81 0)) ta_149 rfl rfl (by omega) (by omega) (by omega) (by rw [show 5 * mx x y + M 81 1 - 1 - g = 5 * mx x y + (M 81 1 - 1 - g) by omega, hO _ (by omega)]; exact hM.2 _ _ (by omega) (by omega) pmx (by omega) (by omega)) ?_
    refine w_ior ta_149 rfl ?_
    refine w_iastore ta_149 rfl rfl (by omega) (by omega) (by omega) ?_
    refine w_iinc_5_6 ta_149 rfl rfl ?_
    refine w_goto ta_149 rfl ?_
    rw [bP_or _ _ n1]
    refine ih h34 _ (fun c cc => by rw [wr_n _ _ _ cc]; exact hF c cc) (fun z hz => by rw [wr_s, up_n _ _ (by omega)]; exact hO z (by omega)) (fun j j0 j1 => ?_)
    rw [wr_s]
    unfold upI
    by_cases z : j = g
    · rw [if_pos (by omega), z]; rfl
    · rw [if_neg (by omega)]; exact hV j j0 (by omega)
set_option maxHeartbeats 4000000 in
set_option maxRecDepth 20000 in
theorem cm_join (D : Nat) (M : Mem) (hI : MdI M) (H part : Int → Int) (m : Nat) (dI : DI (M 81 0) (M 81 1) m H part) (hM : MP M (M 81 0) (M 81 1) H part) (x y : Int) (x0 : 0 ≤ x) (x1 : x < M 81 0) (y0 : 0 ≤ y) (y1 : y < M 81 0) (xy : x ≠ y) (px : part x = 1) (py : part y = 1) : CV (D + 3) 149 [.inr (.inr 80), .inl x, .inl y] M (fun M' => (∀ c, c ≠ 90 → c ≠ 91 → M' c = M c) ∧ MP M' (M 81 0) (M 81 1) (jH (mC M) (M 81 0) (M 81 1) H (mn x y) (mx x y)) (upI part (mx x y) 0)) := by
  refine mk_C mt_149 rfl (Nat.le_of_ble_eq_true rfl) (L := [some _, some _, some _, none, none, none]) rfl ?_
  obtain ⟨n0, n1, k0, k1, f0, f1, r0, r1, s0, s1, hA⟩ := id hI
  have e := mn_mx xy
  have pmn : part (mn x y) = 1 := by
    rcases e.2 with q | q
    · rw [q.1]; exact px
    · rw [q.1]; exact py
  have pmx : part (mx x y) = 1 := by
    rcases e.2 with q | q
    · rw [q.2]; exact py
    · rw [q.2]; exact px
  have hc : ∀ i, 0 ≤ i → i < M 81 0 → 1 ≤ mC M i ∧ mC M i ≤ 999 := (fun i i0 i1 => by have := hA i i0 i1; show 1 ≤ M 81 (5 + i) ∧ M 81 (5 + i) ≤ 999; omega)
  have key : Wp (D + 3) 149 (26, [some (.inr (.inr 80)), some (.inl x), some (.inl y), some (.inl (mn x y)), some (.inl (mx x y)), some (.inl 0)], [], M) (fun r M' => r = none ∧ (∀ c, c ≠ 90 → c ≠ 91 → M' c = M c) ∧ MP M' (M 81 0) (M 81 1) (jH (mC M) (M 81 0) (M 81 1) H (mn x y) (mx x y)) (upI part (mx x y) 0)) := by
    refine lm_join D M hI H part m dI hM x y x0 x1 y0 y1 xy px py _ ?_ 0 (by omega) (by omega) M (fun _ _ => rfl) (fun _ _ => rfl) (fun j j0 j1 => by omega)
    intro Z hF hO hV
    refine w_aload_n ta_149 rfl rfl ?_
    refine w_getR ta_149 rfl rfl ?_
    refine w_iload ta_149 rfl rfl ?_
    refine w_iconst ta_149 rfl ?_
    refine w_bastore ta_149 rfl rfl (by omega) (by omega) (by omega) (by omega) ?_
    have eZ2 : wr Z 91 (mx x y) 0 81 = M 81 := by rw [wr_n _ _ _ (by decide)]; exact hF 81 (by decide)
    have eC2 : mC (wr Z 91 (mx x y) 0) = mC M := by unfold mC; rw [eZ2]
    have hIZ : MdI (wr Z 91 (mx x y) 0) := hI.of eZ2
    refine w_aload_n ta_149 rfl rfl ?_
    refine w_iload_n ta_149 rfl rfl ?_
    refine w_cV [_, _] _ ta_149 rfl rfl rfl mt_148 rfl rfl rfl rfl (Nat.le_of_ble_eq_true rfl) (fun _ => rfl) rfl (cm_order _ _ hIZ H (mn x y) (mx x y) (by omega) (by rw [eZ2]; omega) (fun j j0 j1 => by rw [eZ2] at j1 ⊢; rw [wr_n _ _ _ (by decide)]; exact hV j j0 j1)) ?_
    rintro Z3 ⟨s, hF3, hO3, hp, hr, hV3, hs⟩
    rw [eC2, eZ2] at hs
    rw [eZ2] at hO3 hp hr hV3
    refine w_vret ta_149 rfl ?_
    refine ⟨rfl, fun c c1 c2 => by rw [hF3 c c1, wr_n _ _ _ c2]; exact hF c c1, fun p p0 p1 => ?_, fun p g p0 p1 hpp g0 g1 => ?_⟩
    · rw [hF3 91 (by decide), wr_s]
      unfold upI
      split
      · rfl
      · rw [hF 91 (by decide)]; exact hM.1 p p0 p1
    · by_cases z : p = mn x y
      · subst z
        rw [hV3 g g0 g1]
        exact (srt_row dI n1 hc k0 k1 (by omega) hp hr hs g g0 g1).1
      · have z2 : p ≠ mx x y := fun q => by rw [q, up_s] at hpp; omega
        rw [up_n _ _ z2] at hpp
        rw [hO3 _ (by omega), wr_n _ _ _ (by decide), hO _ (by omega), hM.2 p g p0 p1 hpp g0 g1]
        exact bP_cg (fun i i0 i1 => (jH_oth dI k0 k1 (by omega) i0 i1 z z2 g0 g1).symm)
  by_cases lt : x < y
  · refine w_iload_n ta_149 rfl rfl ?_
    refine w_iload_n ta_149 rfl rfl ?_
    refine w_icmp_ge ta_149 rfl ⟨by omega, by omega⟩ ⟨by omega, by omega⟩ (fun h2 => ?_) (fun h2 => ?_)
    · exfalso; omega
    · refine w_iload_n ta_149 rfl rfl ?_
      refine w_goto ta_149 rfl ?_
      refine w_istn_3_6 ta_149 rfl rfl ?_
      refine w_iload_n ta_149 rfl rfl ?_
      refine w_iload_n ta_149 rfl rfl ?_
      refine w_icmp_ge ta_149 rfl ⟨by omega, by omega⟩ ⟨by omega, by omega⟩ (fun h13 => ?_) (fun h13 => ?_)
      · exfalso; omega
      · refine w_iload_n ta_149 rfl rfl ?_
        refine w_goto ta_149 rfl ?_
        refine w_ist_4_6 ta_149 rfl rfl ?_
        refine w_iconst ta_149 rfl ?_
        refine w_ist_5_6 ta_149 rfl rfl ?_
        (have e1 : mn x y = x := if_pos lt; have e2 : mx x y = y := if_pos lt; rw [e1, e2] at key ⊢; exact key)
  · refine w_iload_n ta_149 rfl rfl ?_
    refine w_iload_n ta_149 rfl rfl ?_
    refine w_icmp_ge ta_149 rfl ⟨by omega, by omega⟩ ⟨by omega, by omega⟩ (fun h2 => ?_) (fun h2 => ?_)
    · refine w_iload_n ta_149 rfl rfl ?_
      refine w_istn_3_6 ta_149 rfl rfl ?_
      refine w_iload_n ta_149 rfl rfl ?_
      refine w_iload_n ta_149 rfl rfl ?_
      refine w_icmp_ge ta_149 rfl ⟨by omega, by omega⟩ ⟨by omega, by omega⟩ (fun h13 => ?_) (fun h13 => ?_)
      · refine w_iload_n ta_149 rfl rfl ?_
        refine w_ist_4_6 ta_149 rfl rfl ?_
        refine w_iconst ta_149 rfl ?_
        refine w_ist_5_6 ta_149 rfl rfl ?_
        (have e1 : mn x y = y := if_neg lt; have e2 : mx x y = x := if_neg lt; rw [e1, e2] at key ⊢; exact key)
      · exfalso; omega
    · exfalso; omega
