/-! the reference reads tokens -/
def TpM (N : Mem) : Prop := 0 ≤ N 80 7 ∧ N 80 7 ≤ 160 ∧ ∀ i, 0 ≤ i → i < 160 → 0 ≤ N 86 i ∧ N 86 i ≤ 127
theorem TpM.of {N Z : Mem} (h : TpM N) (e1 : Z 80 7 = N 80 7) (e2 : Z 86 = N 86) : TpM Z := by
  unfold TpM
  rw [e1, e2]
  exact h
def srt (k : Int) : Int := if k = 3 then 0 else k + 1
theorem srt_b {k : Int} (h0 : 0 ≤ k) (h1 : k ≤ 4) : 0 ≤ srt k ∧ srt k ≤ 5 ∧ (srt k = 0 ↔ k = 3) ∧ (srt k = 1 ↔ k = 0) ∧ (srt k = 2 ↔ k = 1) ∧ (srt k = 3 ↔ k = 2) := by
  unfold srt
  split <;> omega
/-- the reference has gone on by a token -/
def NM (t : Int → Int) (L p : Int) (N M' : Mem) : Prop := (∀ c, c ≠ 80 → M' c = N c) ∧ (∀ j, j < 8 ∨ 13 < j → M' 80 j = N 80 j) ∧ ((tK t L p = 4 ∧ M' 80 12 = 1 ∧ M' 80 13 = tS t L p) ∨ (tK t L p ≠ 4 ∧ M' 80 12 = 0 ∧ M' 80 9 = tS t L p ∧ M' 80 10 = srt (tK t L p) ∧ M' 80 8 = tN t L p ∧ (tK t L p = 1 → M' 80 11 = tV t L p)))
def fgZ (t : Int → Int) (s q : Int) : Int := vd t s (if q - s < 3 then q else s + 3)
theorem fg_s (t : Int → Int) {s q : Int} (h : s ≤ q) (h3 : q - s < 3) : fgZ t s (q + 1) = 10 * fgZ t s q + t q - 48 := by
  unfold fgZ
  rw [if_pos h3, ← vd_s t h]
  by_cases e : q + 1 - s < 3
  · rw [if_pos e]
  · rw [if_neg e, show s + 3 = q + 1 by omega]
theorem fg_n (t : Int → Int) {s q : Int} (h3 : ¬ q - s < 3) : fgZ t s (q + 1) = fgZ t s q := by
  unfold fgZ
  rw [if_neg h3, if_neg (by omega)]
theorem fg_e (t : Int → Int) {s q : Int} (h3 : q - s ≤ 3) : fgZ t s q = vd t s q := by
  unfold fgZ
  by_cases e : q - s < 3
  · rw [if_pos e]
  · rw [if_neg e, show s + 3 = q by omega]
set_option maxHeartbeats 4000000 in
set_option maxRecDepth 20000 in
theorem cm_byteAt (D : Nat) (N : Mem) (hT : TpM N) (p : Int) (p0 : 0 ≤ p) (p1 : p < 1000) : CI D 112 [.inr (.inr 80), .inl p] N (fun v M' => ((p < N 80 7 ∧ v = N 86 p) ∨ (N 80 7 ≤ p ∧ v = -1)) ∧ M' = N) := by
  refine mk_C mt_112 rfl (Nat.le_of_ble_eq_true rfl) (L := [some _, some _]) rfl ?_
  obtain ⟨l0, l1, hb⟩ := id hT
  refine w_iload_n ta_112 rfl rfl ?_
  refine w_aload_n ta_112 rfl rfl ?_
  refine w_getI 7 ta_112 rfl rfl rfl ?_
  refine w_icmp_ge ta_112 rfl ⟨by omega, by omega⟩ ⟨by omega, by omega⟩ (fun h5 => ?_) (fun h5 => ?_)
  · refine w_iconst ta_112 rfl ?_
    refine w_iret ta_112 rfl (Or.inl rfl) ?_
    first
      | exact ⟨_, rfl, Or.inl ⟨by omega, rfl⟩, rfl⟩
      | exact ⟨_, rfl, Or.inr ⟨by omega, rfl⟩, rfl⟩
  · refine w_aload_n ta_112 rfl rfl ?_
    refine w_getR ta_112 rfl rfl ?_
    refine w_iload_n ta_112 rfl rfl ?_
    refine w_iaload ta_112 rfl rfl (by omega) (by omega) (by omega) ?_
    refine w_goto ta_112 rfl ?_
    refine w_iret ta_112 rfl (Or.inl rfl) ?_
    first
      | exact ⟨_, rfl, Or.inl ⟨by omega, rfl⟩, rfl⟩
      | exact ⟨_, rfl, Or.inr ⟨by omega, rfl⟩, rfl⟩
set_option maxHeartbeats 4000000 in
set_option maxRecDepth 20000 in
theorem cm_requires (D : Nat) (N : Mem) (g x : Int) (hg : g = 0 ∨ g = 1) (f0 : 0 ≤ N 80 12) (f1 : N 80 12 ≤ 5) : CV D 111 [.inr (.inr 80), .inl g, .inl x] N (fun M' => ((g = 0 ∧ N 80 12 = 0) ∧ M' = wr (wr N 80 12 x) 80 13 (N 80 9)) ∨ (¬ (g = 0 ∧ N 80 12 = 0) ∧ M' = N)) := by
  refine mk_C mt_111 rfl (Nat.le_of_ble_eq_true rfl) (L := [some _, some _, some _]) rfl ?_
  refine w_iload_n ta_111 rfl rfl ?_
  refine w_if_ne ta_111 rfl ⟨by omega, by omega⟩ (fun h1 => ?_) (fun h1 => ?_)
  · refine w_vret ta_111 rfl ?_
    first
      | exact ⟨rfl, Or.inr ⟨by omega, rfl⟩⟩
      | exact ⟨rfl, Or.inl ⟨by omega, rfl⟩⟩
  · refine w_aload_n ta_111 rfl rfl ?_
    refine w_getI 12 ta_111 rfl rfl rfl ?_
    refine w_if_ne ta_111 rfl ⟨by omega, by omega⟩ (fun h8 => ?_) (fun h8 => ?_)
    · refine w_vret ta_111 rfl ?_
      first
        | exact ⟨rfl, Or.inr ⟨by omega, rfl⟩⟩
        | exact ⟨rfl, Or.inl ⟨by omega, rfl⟩⟩
    · refine w_aload_n ta_111 rfl rfl ?_
      refine w_iload_n ta_111 rfl rfl ?_
      refine w_putI 12 ta_111 rfl rfl rfl ?_
      refine w_aload_n ta_111 rfl rfl ?_
      refine w_aload_n ta_111 rfl rfl ?_
      refine w_getIv 9 (v := N 80 9) ta_111 rfl rfl rfl (by rw [wr_s, up_n _ _ (by decide)]) ?_
      refine w_putI 13 ta_111 rfl rfl rfl ?_
      refine w_vret ta_111 rfl ?_
      first
        | exact ⟨rfl, Or.inr ⟨by omega, rfl⟩⟩
        | exact ⟨rfl, Or.inl ⟨by omega, rfl⟩⟩
set_option maxHeartbeats 4000000 in
set_option maxRecDepth 20000 in
theorem cm_reads1 (D : Nat) (N : Mem) (f0 : 1 ≤ N 80 12) (f1 : N 80 12 ≤ 5) : CV (D + 1) 115 [.inr (.inr 80)] N (fun M' => M' = N) := by
  refine mk_C mt_115 rfl (Nat.le_of_ble_eq_true rfl) (L := [some _, none]) rfl ?_
  refine w_aload_n ta_115 rfl rfl ?_
  refine w_getI 12 ta_115 rfl rfl rfl ?_
  refine w_if_le ta_115 rfl ⟨by omega, by omega⟩ (fun h4 => ?_) (fun h4 => ?_)
  · exfalso; omega
  · refine w_vret ta_115 rfl ?_
    exact ⟨rfl, rfl⟩
set_option maxHeartbeats 4000000 in
set_option maxRecDepth 20000 in
theorem lp_rdSp (D : Nat) (N : Mem) (hT : TpM N) (P : Option AV → Mem → Prop) : ∀ (d : Nat) (q : Int), N 80 7 - q ≤ d → 0 ≤ q → q ≤ N 80 7 → (∀ x : Unit, Wp (D + 1) 115 (34, [some (.inr (.inr 80)), none], [], wr N 80 8 (rnZ (spB (N 86)) (N 80 7) q)) P) → Wp (D + 1) 115 (8, [some (.inr (.inr 80)), none], [], wr N 80 8 q) P := by
  obtain ⟨l0, l1, hb⟩ := id hT
  intro d
  induction d with
  | zero =>
    intro q hd q0 q1 hP
    refine w_aload_n ta_115 rfl rfl ?_
    refine w_aload_n ta_115 rfl rfl ?_
    refine w_getIv 8 (v := q) ta_115 rfl rfl rfl (by rw [wr_s, up_s]) ?_
    refine w_cI [_, _] _ ta_115 rfl rfl rfl mt_112 rfl rfl rfl rfl (Nat.le_of_ble_eq_true rfl) (fun _ => rfl) rfl (cm_byteAt _ _ (hT.of (by rw [wr_s, up_n _ _ (by decide)]) (wr_n _ _ _ (by decide))) q (by omega) (by omega)) ?_
    rintro v Z ⟨hv, rfl⟩
    rw [wr_s, up_n _ _ (by decide), wr_n _ _ _ (by decide)] at hv
    have vb : -1 ≤ v ∧ v ≤ 127 := hv.elim (fun h => by have := hb q q0 (by omega); omega) (fun h => by omega)
    refine w_bipush ta_115 rfl ?_
    refine w_icmp_ne ta_115 rfl ⟨by omega, by omega⟩ ⟨by omega, by omega⟩ (fun h18 => ?_) (fun h18 => ?_)
    · rw [rnZ_f (fun z => by have := spB_t.mp z.2; omega)] at hP
      exact hP ()
    · exfalso; omega
  | succ d ih =>
    intro q hd q0 q1 hP
    refine w_aload_n ta_115 rfl rfl ?_
    refine w_aload_n ta_115 rfl rfl ?_
    refine w_getIv 8 (v := q) ta_115 rfl rfl rfl (by rw [wr_s, up_s]) ?_
    refine w_cI [_, _] _ ta_115 rfl rfl rfl mt_112 rfl rfl rfl rfl (Nat.le_of_ble_eq_true rfl) (fun _ => rfl) rfl (cm_byteAt _ _ (hT.of (by rw [wr_s, up_n _ _ (by decide)]) (wr_n _ _ _ (by decide))) q (by omega) (by omega)) ?_
    rintro v Z ⟨hv, rfl⟩
    rw [wr_s, up_n _ _ (by decide), wr_n _ _ _ (by decide)] at hv
    have vb : -1 ≤ v ∧ v ≤ 127 := hv.elim (fun h => by have := hb q q0 (by omega); omega) (fun h => by omega)
    refine w_bipush ta_115 rfl ?_
    refine w_icmp_ne ta_115 rfl ⟨by omega, by omega⟩ ⟨by omega, by omega⟩ (fun h18 => ?_) (fun h18 => ?_)
    · rw [rnZ_f (fun z => by have := spB_t.mp z.2; omega)] at hP
      exact hP ()
    · have hin : spB (N 86) q = true := spB_t.mpr (by omega)
      rw [rnZ_t (by omega) hin] at hP
      refine w_aload_n ta_115 rfl rfl ?_
      refine w_dup ta_115 rfl rfl ?_
      refine w_getIv 8 (v := q) ta_115 rfl rfl rfl (by rw [wr_s, up_s]) ?_
      refine w_iconst ta_115 rfl ?_
      refine w_iadd ta_115 rfl ?_
      refine w_putI 8 ta_115 rfl rfl rfl ?_
      refine w_goto ta_115 rfl ?_
      rw [wr_wr]
      exact ih (q + 1) (by omega) (by omega) (by omega) hP
set_option maxHeartbeats 4000000 in
set_option maxRecDepth 20000 in
theorem lp_rdNm (D : Nat) (c : Int) : ∀ (d : Nat) (q : Int) (X : Mem), TpM X → X 80 8 = q → X 80 7 - q ≤ d → 0 ≤ q → q ≤ X 80 7 → Wp (D + 1) 115 (82, [some (.inr (.inr 80)), some (.inl c)], [], X) (fun r M' => r = none ∧ M' = wr X 80 8 (rnZ (inB (X 86) 97 122) (X 80 7) q)) := by
  intro d
  induction d with
  | zero =>
    intro q X hT h8 hd q0 q1
    obtain ⟨l0, l1, hb⟩ := id hT
    refine w_aload_n ta_115 rfl rfl ?_
    refine w_aload_n ta_115 rfl rfl ?_
    refine w_getIv 8 (v := q) ta_115 rfl rfl rfl h8 ?_
    refine w_cI [_, _] _ ta_115 rfl rfl rfl mt_112 rfl rfl rfl rfl (Nat.le_of_ble_eq_true rfl) (fun _ => rfl) rfl (cm_byteAt _ X hT q (by omega) (by omega)) ?_
    rintro v Z ⟨hv, hz⟩
    obtain rfl := hz.symm
    have vb : -1 ≤ v ∧ v ≤ 127 := hv.elim (fun h => by have := hb q q0 (by omega); omega) (fun h => by omega)
    refine w_i2l ta_115 rfl ⟨by omega, by omega⟩ ?_
    refine w_ldc2_w ta_115 rfl ?_
    refine w_ldc2_w ta_115 rfl ?_
    refine w_cI [_, _, _] _ ta_115 rfl rfl rfl mt_106 rfl rfl rfl rfl (Nat.le_of_ble_eq_true rfl) (fun q => by cases q) rfl (cm_in _ v 97 122 _ (by constructor <;> omega) (by decide) (by decide)) ?_
    rintro w Z ⟨hw, hz⟩
    obtain rfl := hz.symm
    refine w_if_eq ta_115 rfl ⟨by omega, by omega⟩ (fun h100 => ?_) (fun h100 => ?_)
    · rw [rnZ_f (fun z => by have := inB_t.mp z.2; omega)]
      refine w_vret ta_115 rfl ?_
      exact ⟨rfl, by rw [← h8, wr_id]⟩
    · exfalso; omega
  | succ d ih =>
    intro q X hT h8 hd q0 q1
    obtain ⟨l0, l1, hb⟩ := id hT
    refine w_aload_n ta_115 rfl rfl ?_
    refine w_aload_n ta_115 rfl rfl ?_
    refine w_getIv 8 (v := q) ta_115 rfl rfl rfl h8 ?_
    refine w_cI [_, _] _ ta_115 rfl rfl rfl mt_112 rfl rfl rfl rfl (Nat.le_of_ble_eq_true rfl) (fun _ => rfl) rfl (cm_byteAt _ X hT q (by omega) (by omega)) ?_
    rintro v Z ⟨hv, hz⟩
    obtain rfl := hz.symm
    have vb : -1 ≤ v ∧ v ≤ 127 := hv.elim (fun h => by have := hb q q0 (by omega); omega) (fun h => by omega)
    refine w_i2l ta_115 rfl ⟨by omega, by omega⟩ ?_
    refine w_ldc2_w ta_115 rfl ?_
    refine w_ldc2_w ta_115 rfl ?_
    refine w_cI [_, _, _] _ ta_115 rfl rfl rfl mt_106 rfl rfl rfl rfl (Nat.le_of_ble_eq_true rfl) (fun q => by cases q) rfl (cm_in _ v 97 122 _ (by constructor <;> omega) (by decide) (by decide)) ?_
    rintro w Z ⟨hw, hz⟩
    obtain rfl := hz.symm
    refine w_if_eq ta_115 rfl ⟨by omega, by omega⟩ (fun h100 => ?_) (fun h100 => ?_)
    · rw [rnZ_f (fun z => by have := inB_t.mp z.2; omega)]
      refine w_vret ta_115 rfl ?_
      exact ⟨rfl, by rw [← h8, wr_id]⟩
    · have hin : inB (X 86) 97 122 q = true := inB_t.mpr (by omega)
      rw [rnZ_t (by omega) hin]
      refine w_aload_n ta_115 rfl rfl ?_
      refine w_dup ta_115 rfl rfl ?_
      refine w_getIv 8 (v := q) ta_115 rfl rfl rfl h8 ?_
      refine w_iconst ta_115 rfl ?_
      refine w_iadd ta_115 rfl ?_
      refine w_putI 8 ta_115 rfl rfl rfl ?_
      refine w_goto ta_115 rfl ?_
      have q := ih (q + 1) (wr X 80 8 (q + 1)) (hT.of (by rw [wr_s, up_n _ _ (by decide)]) (wr_n _ _ _ (by decide))) (by rw [wr_s, up_s]) (by rw [wr_s, up_n _ _ (by decide)]; omega) (by omega) (by rw [wr_s, up_n _ _ (by decide)]; omega)
      rw [wr_wr, wr_n _ _ _ (by decide), wr_s, up_n _ _ (by decide)] at q
      exact q
/-- inside a number -/
def Nb (N X : Mem) (s q : Int) : Prop := (∀ c, c ≠ 80 → X c = N c) ∧ (∀ j, j < 8 ∨ 13 < j → X 80 j = N 80 j) ∧ X 80 8 = q ∧ X 80 9 = s ∧ X 80 10 = 2 ∧ X 80 11 = fgZ (N 86) s q ∧ X 80 12 = 0
set_option maxHeartbeats 4000000 in
set_option maxRecDepth 20000 in
theorem lp_rdNo (D : Nat) (N : Mem) (hT : TpM N) (p s e : Int) (cx : Int) (es : s = tS (N 86) (N 80 7) p) (sl : s < N 80 7) (sp : 0 ≤ s) (ds : 48 ≤ N 86 s ∧ N 86 s ≤ 57) (eN : e = rnZ (inB (N 86) 48 57) (N 80 7) s) (eK : tK (N 86) (N 80 7) p = kS (N 86) (N 80 7) s) (eN2 : tN (N 86) (N 80 7) p = e) : ∀ (d : Nat) (q : Int) (X : Mem), Nb N X s q → N 80 7 - q ≤ d → s ≤ q → q ≤ N 80 7 → rnZ (inB (N 86) 48 57) (N 80 7) q = e → Wp (D + 1) 115 (140, [some (.inr (.inr 80)), some (.inl cx)], [], X) (fun r M' => r = none ∧ NM (N 86) (N 80 7) p N M') := by
  obtain ⟨l0, l1, hb⟩ := id hT
  intro d
  induction d with
  | zero =>
    intro q X hX hd s0 q1 he
    obtain ⟨hc, hj, h8, h9, h10, h11, h12⟩ := id hX
    have q0 : 0 ≤ q := by omega
    have hTX : TpM X := hT.of (hj 7 (by omega)) (hc 86 (by decide))
    refine w_aload_n ta_115 rfl rfl ?_
    refine w_aload_n ta_115 rfl rfl ?_
    refine w_getIv 8 (v := q) ta_115 rfl rfl rfl h8 ?_
    refine w_cI [_, _] _ ta_115 rfl rfl rfl mt_112 rfl rfl rfl rfl (Nat.le_of_ble_eq_true rfl) (fun _ => rfl) rfl (cm_byteAt _ X hTX q (by omega) (by omega)) ?_
    rintro v Z ⟨hv, hz⟩
    obtain rfl := hz.symm
    rw [hc 86 (by decide), hj 7 (by omega)] at hv
    have vb : -1 ≤ v ∧ v ≤ 127 := hv.elim (fun h => by have := hb q q0 (by omega); omega) (fun h => by omega)
    refine w_i2l ta_115 rfl ⟨by omega, by omega⟩ ?_
    refine w_ldc2_w ta_115 rfl ?_
    refine w_ldc2_w ta_115 rfl ?_
    refine w_cI [_, _, _] _ ta_115 rfl rfl rfl mt_106 rfl rfl rfl rfl (Nat.le_of_ble_eq_true rfl) (fun q => by cases q) rfl (cm_in _ v 48 57 _ (by constructor <;> omega) (by decide) (by decide)) ?_
    rintro w Z ⟨hw, hz⟩
    obtain rfl := hz.symm
    refine w_if_eq ta_115 rfl ⟨by omega, by omega⟩ (fun h158 => ?_) (fun h158 => ?_)
    · rw [show rnZ (inB (N 86) 48 57) (N 80 7) q = q from rnZ_f (fun z => by have := inB_t.mp z.2; omega)] at he
      subst he
      refine w_aload_n ta_115 rfl rfl ?_
      refine w_aload_n ta_115 rfl rfl ?_
      refine w_getIv 8 (v := q) ta_115 rfl rfl rfl h8 ?_
      refine w_aload_n ta_115 rfl rfl ?_
      refine w_getIv 9 (v := s) ta_115 rfl rfl rfl h9 ?_
      refine w_isub ta_115 rfl ?_
      refine w_iconst ta_115 rfl ?_
      refine w_icmp_gt ta_115 rfl ⟨by omega, by omega⟩ ⟨by omega, by omega⟩ (fun h228 => ?_) (fun h228 => ?_)
      · refine w_iconst ta_115 rfl ?_
        refine w_iconst ta_115 rfl ?_
        refine w_cV [_, _, _] _ ta_115 rfl rfl rfl mt_111 rfl rfl rfl rfl (Nat.le_of_ble_eq_true rfl) (fun _ => rfl) rfl (cm_requires _ X _ 1 (by decide) (by omega) (by omega)) ?_
        rintro Z hZ
        refine w_goto ta_115 rfl ?_
        refine w_vret ta_115 rfl ?_
        first
          | (obtain ⟨-, hZ⟩ := hZ.resolve_left (fun z => absurd z.1.1 (by decide))
             refine ⟨rfl, by rw [hZ]; exact hc, by rw [hZ]; exact hj, Or.inr ?_⟩
             have k1 : tK (N 86) (N 80 7) p = 1 := by rw [eK]; unfold kS; rw [if_neg (by omega), if_neg (by omega), if_neg (by omega), if_pos ds, if_neg (by rw [← eN]; omega)]
             rw [k1, hZ]
             exact ⟨by decide, h12, by rw [h9, es], h10, by rw [h8, eN2], fun _ => by rw [h11, fg_e _ (by omega)]; unfold tV; rw [← es, eN2]⟩)
          | (obtain ⟨-, hZ⟩ := hZ.resolve_right (fun z => z.1 ⟨rfl, h12⟩)
             have k4 : tK (N 86) (N 80 7) p = 4 := by rw [eK]; unfold kS; rw [if_neg (by omega), if_neg (by omega), if_neg (by omega), if_pos ds, if_pos (by rw [← eN]; omega)]
             refine ⟨rfl, fun c hcc => by rw [hZ, wr_n _ _ _ hcc, wr_n _ _ _ hcc]; exact hc c hcc, fun j hjj => by rw [hZ, wr_s, up_n _ _ (by omega), wr_s, up_n _ _ (by omega)]; exact hj j hjj, Or.inl ⟨k4, by rw [hZ, wr_s, up_n _ _ (by decide), wr_s, up_s], by rw [hZ, wr_s, up_s, h9, es]⟩⟩)
      · refine w_iconst ta_115 rfl ?_
        refine w_goto ta_115 rfl ?_
        refine w_iconst ta_115 rfl ?_
        refine w_cV [_, _, _] _ ta_115 rfl rfl rfl mt_111 rfl rfl rfl rfl (Nat.le_of_ble_eq_true rfl) (fun _ => rfl) rfl (cm_requires _ X _ 1 (by decide) (by omega) (by omega)) ?_
        rintro Z hZ
        refine w_goto ta_115 rfl ?_
        refine w_vret ta_115 rfl ?_
        first
          | (obtain ⟨-, hZ⟩ := hZ.resolve_left (fun z => absurd z.1.1 (by decide))
             refine ⟨rfl, by rw [hZ]; exact hc, by rw [hZ]; exact hj, Or.inr ?_⟩
             have k1 : tK (N 86) (N 80 7) p = 1 := by rw [eK]; unfold kS; rw [if_neg (by omega), if_neg (by omega), if_neg (by omega), if_pos ds, if_neg (by rw [← eN]; omega)]
             rw [k1, hZ]
             exact ⟨by decide, h12, by rw [h9, es], h10, by rw [h8, eN2], fun _ => by rw [h11, fg_e _ (by omega)]; unfold tV; rw [← es, eN2]⟩)
          | (obtain ⟨-, hZ⟩ := hZ.resolve_right (fun z => z.1 ⟨rfl, h12⟩)
             have k4 : tK (N 86) (N 80 7) p = 4 := by rw [eK]; unfold kS; rw [if_neg (by omega), if_neg (by omega), if_neg (by omega), if_pos ds, if_pos (by rw [← eN]; omega)]
             refine ⟨rfl, fun c hcc => by rw [hZ, wr_n _ _ _ hcc, wr_n _ _ _ hcc]; exact hc c hcc, fun j hjj => by rw [hZ, wr_s, up_n _ _ (by omega), wr_s, up_n _ _ (by omega)]; exact hj j hjj, Or.inl ⟨k4, by rw [hZ, wr_s, up_n _ _ (by decide), wr_s, up_s], by rw [hZ, wr_s, up_s, h9, es]⟩⟩)
    · exfalso; omega
  | succ d ih =>
    intro q X hX hd s0 q1 he
    obtain ⟨hc, hj, h8, h9, h10, h11, h12⟩ := id hX
    have q0 : 0 ≤ q := by omega
    have hTX : TpM X := hT.of (hj 7 (by omega)) (hc 86 (by decide))
    refine w_aload_n ta_115 rfl rfl ?_
    refine w_aload_n ta_115 rfl rfl ?_
    refine w_getIv 8 (v := q) ta_115 rfl rfl rfl h8 ?_
    refine w_cI [_, _] _ ta_115 rfl rfl rfl mt_112 rfl rfl rfl rfl (Nat.le_of_ble_eq_true rfl) (fun _ => rfl) rfl (cm_byteAt _ X hTX q (by omega) (by omega)) ?_
    rintro v Z ⟨hv, hz⟩
    obtain rfl := hz.symm
    rw [hc 86 (by decide), hj 7 (by omega)] at hv
    have vb : -1 ≤ v ∧ v ≤ 127 := hv.elim (fun h => by have := hb q q0 (by omega); omega) (fun h => by omega)
    refine w_i2l ta_115 rfl ⟨by omega, by omega⟩ ?_
    refine w_ldc2_w ta_115 rfl ?_
    refine w_ldc2_w ta_115 rfl ?_
    refine w_cI [_, _, _] _ ta_115 rfl rfl rfl mt_106 rfl rfl rfl rfl (Nat.le_of_ble_eq_true rfl) (fun q => by cases q) rfl (cm_in _ v 48 57 _ (by constructor <;> omega) (by decide) (by decide)) ?_
    rintro w Z ⟨hw, hz⟩
    obtain rfl := hz.symm
    refine w_if_eq ta_115 rfl ⟨by omega, by omega⟩ (fun h158 => ?_) (fun h158 => ?_)
    · rw [show rnZ (inB (N 86) 48 57) (N 80 7) q = q from rnZ_f (fun z => by have := inB_t.mp z.2; omega)] at he
      subst he
      refine w_aload_n ta_115 rfl rfl ?_
      refine w_aload_n ta_115 rfl rfl ?_
      refine w_getIv 8 (v := q) ta_115 rfl rfl rfl h8 ?_
      refine w_aload_n ta_115 rfl rfl ?_
      refine w_getIv 9 (v := s) ta_115 rfl rfl rfl h9 ?_
      refine w_isub ta_115 rfl ?_
      refine w_iconst ta_115 rfl ?_
      refine w_icmp_gt ta_115 rfl ⟨by omega, by omega⟩ ⟨by omega, by omega⟩ (fun h228 => ?_) (fun h228 => ?_)
      · refine w_iconst ta_115 rfl ?_
        refine w_iconst ta_115 rfl ?_
        refine w_cV [_, _, _] _ ta_115 rfl rfl rfl mt_111 rfl rfl rfl rfl (Nat.le_of_ble_eq_true rfl) (fun _ => rfl) rfl (cm_requires _ X _ 1 (by decide) (by omega) (by omega)) ?_
        rintro Z hZ
        refine w_goto ta_115 rfl ?_
        refine w_vret ta_115 rfl ?_
        first
          | (obtain ⟨-, hZ⟩ := hZ.resolve_left (fun z => absurd z.1.1 (by decide))
             refine ⟨rfl, by rw [hZ]; exact hc, by rw [hZ]; exact hj, Or.inr ?_⟩
             have k1 : tK (N 86) (N 80 7) p = 1 := by rw [eK]; unfold kS; rw [if_neg (by omega), if_neg (by omega), if_neg (by omega), if_pos ds, if_neg (by rw [← eN]; omega)]
             rw [k1, hZ]
             exact ⟨by decide, h12, by rw [h9, es], h10, by rw [h8, eN2], fun _ => by rw [h11, fg_e _ (by omega)]; unfold tV; rw [← es, eN2]⟩)
          | (obtain ⟨-, hZ⟩ := hZ.resolve_right (fun z => z.1 ⟨rfl, h12⟩)
             have k4 : tK (N 86) (N 80 7) p = 4 := by rw [eK]; unfold kS; rw [if_neg (by omega), if_neg (by omega), if_neg (by omega), if_pos ds, if_pos (by rw [← eN]; omega)]
             refine ⟨rfl, fun c hcc => by rw [hZ, wr_n _ _ _ hcc, wr_n _ _ _ hcc]; exact hc c hcc, fun j hjj => by rw [hZ, wr_s, up_n _ _ (by omega), wr_s, up_n _ _ (by omega)]; exact hj j hjj, Or.inl ⟨k4, by rw [hZ, wr_s, up_n _ _ (by decide), wr_s, up_s], by rw [hZ, wr_s, up_s, h9, es]⟩⟩)
      · refine w_iconst ta_115 rfl ?_
        refine w_goto ta_115 rfl ?_
        refine w_iconst ta_115 rfl ?_
        refine w_cV [_, _, _] _ ta_115 rfl rfl rfl mt_111 rfl rfl rfl rfl (Nat.le_of_ble_eq_true rfl) (fun _ => rfl) rfl (cm_requires _ X _ 1 (by decide) (by omega) (by omega)) ?_
        rintro Z hZ
        refine w_goto ta_115 rfl ?_
        refine w_vret ta_115 rfl ?_
        first
          | (obtain ⟨-, hZ⟩ := hZ.resolve_left (fun z => absurd z.1.1 (by decide))
             refine ⟨rfl, by rw [hZ]; exact hc, by rw [hZ]; exact hj, Or.inr ?_⟩
             have k1 : tK (N 86) (N 80 7) p = 1 := by rw [eK]; unfold kS; rw [if_neg (by omega), if_neg (by omega), if_neg (by omega), if_pos ds, if_neg (by rw [← eN]; omega)]
             rw [k1, hZ]
             exact ⟨by decide, h12, by rw [h9, es], h10, by rw [h8, eN2], fun _ => by rw [h11, fg_e _ (by omega)]; unfold tV; rw [← es, eN2]⟩)
          | (obtain ⟨-, hZ⟩ := hZ.resolve_right (fun z => z.1 ⟨rfl, h12⟩)
             have k4 : tK (N 86) (N 80 7) p = 4 := by rw [eK]; unfold kS; rw [if_neg (by omega), if_neg (by omega), if_neg (by omega), if_pos ds, if_pos (by rw [← eN]; omega)]
             refine ⟨rfl, fun c hcc => by rw [hZ, wr_n _ _ _ hcc, wr_n _ _ _ hcc]; exact hc c hcc, fun j hjj => by rw [hZ, wr_s, up_n _ _ (by omega), wr_s, up_n _ _ (by omega)]; exact hj j hjj, Or.inl ⟨k4, by rw [hZ, wr_s, up_n _ _ (by decide), wr_s, up_s], by rw [hZ, wr_s, up_s, h9, es]⟩⟩)
    · have hin : inB (N 86) 48 57 q = true := inB_t.mpr (by omega)
      rw [rnZ_t (by omega) hin] at he
      refine w_aload_n ta_115 rfl rfl ?_
      refine w_aload_n ta_115 rfl rfl ?_
      refine w_getIv 8 (v := q) ta_115 rfl rfl rfl h8 ?_
      refine w_aload_n ta_115 rfl rfl ?_
      refine w_getIv 9 (v := s) ta_115 rfl rfl rfl h9 ?_
      refine w_isub ta_115 rfl ?_
      refine w_iconst ta_115 rfl ?_
      refine w_icmp_ge ta_115 rfl ⟨by omega, by omega⟩ ⟨by omega, by omega⟩ (fun h172 => ?_) (fun h172 => ?_)
      · refine w_aload_n ta_115 rfl rfl ?_
        refine w_getIv 11 (v := fgZ (N 86) s q) ta_115 rfl rfl rfl h11 ?_
        refine w_putI 11 ta_115 rfl rfl rfl ?_
        refine w_aload_n ta_115 rfl rfl ?_
        refine w_dup ta_115 rfl rfl ?_
        refine w_getIv 8 (v := q) ta_115 rfl rfl rfl (by rw [wr_s, up_n _ _ (by decide)]; exact h8) ?_
        refine w_iconst ta_115 rfl ?_
        refine w_iadd ta_115 rfl ?_
        refine w_putI 8 ta_115 rfl rfl rfl ?_
        refine w_goto ta_115 rfl ?_
        refine ih (q + 1) _ ?_ (by omega) (by omega) (by omega) he
        refine ⟨fun c hcc => by rw [wr_n _ _ _ hcc, wr_n _ _ _ hcc]; exact hc c hcc, fun j hjj => by rw [wr_s, up_n _ _ (by omega), wr_s, up_n _ _ (by omega)]; exact hj j hjj, by rw [wr_s, up_s], by rw [wr_s, up_n _ _ (by decide), wr_s, up_n _ _ (by decide)]; exact h9, by rw [wr_s, up_n _ _ (by decide), wr_s, up_n _ _ (by decide)]; exact h10, ?_, by rw [wr_s, up_n _ _ (by decide), wr_s, up_n _ _ (by decide)]; exact h12⟩
        rw [wr_s, up_n _ _ (by decide), wr_s, up_s]
        first
          | exact (fg_s _ s0 (by omega)).symm
          | exact (fg_n _ (by omega)).symm
      · refine w_bipush ta_115 rfl ?_
        refine w_aload_n ta_115 rfl rfl ?_
        refine w_getIv 11 (v := fgZ (N 86) s q) ta_115 rfl rfl rfl h11 ?_
        refine w_imul ta_115 rfl ?_
        refine w_aload_n ta_115 rfl rfl ?_
        refine w_aload_n ta_115 rfl rfl ?_
        refine w_getIv 8 (v := q) ta_115 rfl rfl rfl h8 ?_
        refine w_cI [_, _] _ ta_115 rfl rfl rfl mt_112 rfl rfl rfl rfl (Nat.le_of_ble_eq_true rfl) (fun _ => rfl) rfl (cm_byteAt _ X hTX q (by omega) (by omega)) ?_
        rintro v2 Z ⟨hv2, hz⟩
        obtain rfl := hz.symm
        rw [hc 86 (by decide), hj 7 (by omega)] at hv2
        obtain rfl : v2 = N 86 q := by omega
        refine w_iadd ta_115 rfl ?_
        refine w_bipush ta_115 rfl ?_
        refine w_isub ta_115 rfl ?_
        refine w_goto ta_115 rfl ?_
        refine w_putI 11 ta_115 rfl rfl rfl ?_
        refine w_aload_n ta_115 rfl rfl ?_
        refine w_dup ta_115 rfl rfl ?_
        refine w_getIv 8 (v := q) ta_115 rfl rfl rfl (by rw [wr_s, up_n _ _ (by decide)]; exact h8) ?_
        refine w_iconst ta_115 rfl ?_
        refine w_iadd ta_115 rfl ?_
        refine w_putI 8 ta_115 rfl rfl rfl ?_
        refine w_goto ta_115 rfl ?_
        refine ih (q + 1) _ ?_ (by omega) (by omega) (by omega) he
        refine ⟨fun c hcc => by rw [wr_n _ _ _ hcc, wr_n _ _ _ hcc]; exact hc c hcc, fun j hjj => by rw [wr_s, up_n _ _ (by omega), wr_s, up_n _ _ (by omega)]; exact hj j hjj, by rw [wr_s, up_s], by rw [wr_s, up_n _ _ (by decide), wr_s, up_n _ _ (by decide)]; exact h9, by rw [wr_s, up_n _ _ (by decide), wr_s, up_n _ _ (by decide)]; exact h10, ?_, by rw [wr_s, up_n _ _ (by decide), wr_s, up_n _ _ (by decide)]; exact h12⟩
        rw [wr_s, up_n _ _ (by decide), wr_s, up_s]
        first
          | exact (fg_s _ s0 (by omega)).symm
          | exact (fg_n _ (by omega)).symm
set_option maxHeartbeats 4000000 in
set_option maxRecDepth 20000 in
theorem cm_reads0 (D : Nat) (N : Mem) (hT : TpM N) (p : Int) (hp : N 80 8 = p) (p0 : 0 ≤ p) (p1 : p ≤ N 80 7) (hf : N 80 12 = 0) : CV (D + 1) 115 [.inr (.inr 80)] N (fun M' => NM (N 86) (N 80 7) p N M') := by
  refine mk_C mt_115 rfl (Nat.le_of_ble_eq_true rfl) (L := [some _, none]) rfl ?_
  obtain ⟨l0, l1, hb⟩ := id hT
  refine w_aload_n ta_115 rfl rfl ?_
  refine w_getI 12 ta_115 rfl rfl rfl ?_
  refine w_if_le ta_115 rfl ⟨by omega, by omega⟩ (fun h4 => ?_) (fun h4 => ?_)
  · have id0 : wr N 80 8 p = N := by rw [← hp, wr_id]
    have go := lp_rdSp D N hT (fun r M' => r = none ∧ NM (N 86) (N 80 7) p N M') (N 80 7 - p).toNat p (by omega) p0 p1
    rw [id0] at go
    refine go (fun _ => ?_)
    have sb := tS_b (t := N 86) p1
    have esS : rnZ (spB (N 86)) (N 80 7) p = tS (N 86) (N 80 7) p := rfl
    have eK : tK (N 86) (N 80 7) p = kS (N 86) (N 80 7) (tS (N 86) (N 80 7) p) := rfl
    have eN : tN (N 86) (N 80 7) p = nS (N 86) (N 80 7) (tS (N 86) (N 80 7) p) := rfl
    rw [esS]
    clear esS go id0
    generalize hs : tS (N 86) (N 80 7) p = s at *
    generalize hY : wr N 80 8 s = Y
    have yc : ∀ c, c ≠ 80 → Y c = N c := fun c hc => by rw [← hY]; exact wr_n _ _ _ hc
    have y8 : Y 80 8 = s := by rw [← hY, wr_s, up_s]
    have yo : ∀ j, j ≠ 8 → Y 80 j = N 80 j := fun j hj => by rw [← hY, wr_s, up_n _ _ hj]
    clear hY
    have hTZ : ∀ Z : Mem, Z 80 7 = N 80 7 → Z 86 = N 86 → TpM Z := fun Z h1 h2 => hT.of h1 h2
    refine w_aload_n ta_115 rfl rfl ?_
    refine w_aload_n ta_115 rfl rfl ?_
    refine w_getIv 8 (v := s) ta_115 rfl rfl rfl y8 ?_
    refine w_putI 9 ta_115 rfl rfl rfl ?_
    refine w_aload_n ta_115 rfl rfl ?_
    refine w_aload_n ta_115 rfl rfl ?_
    refine w_getIv 8 (v := s) ta_115 rfl rfl rfl (by rw [wr_s, up_n _ _ (by decide)]; exact y8) ?_
    refine w_cI [_, _] _ ta_115 rfl rfl rfl mt_112 rfl rfl rfl rfl (Nat.le_of_ble_eq_true rfl) (fun _ => rfl) rfl (cm_byteAt _ _ (hTZ _ (by rw [wr_s, up_n _ _ (by decide)]; exact yo 7 (by decide)) (by rw [wr_n _ _ _ (by decide)]; exact yc 86 (by decide))) s (by omega) (by omega)) ?_
    rintro v Z ⟨hv, rfl⟩
    rw [wr_s, up_n _ _ (by decide), wr_n _ _ _ (by decide), yc 86 (by decide), yo 7 (by decide)] at hv
    have hb0 : s < N 80 7 → 0 ≤ N 86 s := fun h => (hb s (by omega) (by omega)).1
    have vb : -1 ≤ v ∧ v ≤ 127 := hv.elim (fun h => by have := hb s (by omega) (by omega); omega) (fun h => by omega)
    refine w_istn_1_2 ta_115 rfl rfl ?_
    refine w_iload_n ta_115 rfl rfl ?_
    refine w_if_ge ta_115 rfl ⟨by omega, by omega⟩ (fun h52 => ?_) (fun h52 => ?_)
    · refine w_iload_n ta_115 rfl rfl ?_
      refine w_i2l ta_115 rfl ⟨by omega, by omega⟩ ?_
      refine w_ldc2_w ta_115 rfl ?_
      refine w_ldc2_w ta_115 rfl ?_
      refine w_cI [_, _, _] _ ta_115 rfl rfl rfl mt_106 rfl rfl rfl rfl (Nat.le_of_ble_eq_true rfl) (fun q => by cases q) rfl (cm_in _ v 97 122 _ (by constructor <;> omega) (by decide) (by decide)) ?_
      rintro w Z ⟨hw, rfl⟩
      refine w_if_eq ta_115 rfl ⟨by omega, by omega⟩ (fun h74 => ?_) (fun h74 => ?_)
      · refine w_iload_n ta_115 rfl rfl ?_
        refine w_i2l ta_115 rfl ⟨by omega, by omega⟩ ?_
        refine w_ldc2_w ta_115 rfl ?_
        refine w_ldc2_w ta_115 rfl ?_
        refine w_cI [_, _, _] _ ta_115 rfl rfl rfl mt_106 rfl rfl rfl rfl (Nat.le_of_ble_eq_true rfl) (fun q => by cases q) rfl (cm_in _ v 48 57 _ (by constructor <;> omega) (by decide) (by decide)) ?_
        rintro w2 Z ⟨hw2, rfl⟩
        refine w_if_eq ta_115 rfl ⟨by omega, by omega⟩ (fun h127 => ?_) (fun h127 => ?_)
        · refine w_aload_n ta_115 rfl rfl ?_
          refine w_iconst ta_115 rfl ?_
          refine w_putI 10 ta_115 rfl rfl rfl ?_
          refine w_aload_n ta_115 rfl rfl ?_
          refine w_iload_n ta_115 rfl rfl ?_
          refine w_bipush ta_115 rfl ?_
          refine w_icmp_ne ta_115 rfl ⟨by omega, by omega⟩ ⟨by omega, by omega⟩ (fun h252 => ?_) (fun h252 => ?_)
          · refine w_iconst ta_115 rfl ?_
            refine w_iconst ta_115 rfl ?_
            refine w_cV [_, _, _] _ ta_115 rfl rfl rfl mt_111 rfl rfl rfl rfl (Nat.le_of_ble_eq_true rfl) (fun _ => rfl) rfl (cm_requires _ _ _ 1 (by decide) (by rw [wr_s, up_n _ _ (by decide), wr_s, up_n _ _ (by decide), yo 12 (by decide)]; omega) (by rw [wr_s, up_n _ _ (by decide), wr_s, up_n _ _ (by decide), yo 12 (by decide)]; omega)) ?_
            rintro Z hZ
            have e12 : wr (wr Y 80 9 s) 80 10 3 80 12 = 0 := by rw [wr_s, up_n _ _ (by decide), wr_s, up_n _ _ (by decide), yo 12 (by decide)]; exact hf
            have z8 : Z 80 8 = s := by rcases hZ with ⟨-, rfl⟩ | ⟨-, rfl⟩ <;> simp [wr_s, upI, y8]
            refine w_aload_n ta_115 rfl rfl ?_
            refine w_dup ta_115 rfl rfl ?_
            refine w_getIv 8 (v := s) ta_115 rfl rfl rfl z8 ?_
            refine w_iconst ta_115 rfl ?_
            refine w_iadd ta_115 rfl ?_
            refine w_putI 8 ta_115 rfl rfl rfl ?_
            refine w_vret ta_115 rfl ?_
            first
              | (have k4 : kS (N 86) (N 80 7) s = 4 := by unfold kS; rw [if_neg (by omega), if_neg (by omega), if_neg (by omega), if_neg (by omega)]
                 obtain ⟨-, rfl⟩ := hZ.resolve_right (fun z => z.1 ⟨rfl, e12⟩)
                 refine ⟨rfl, fun c hc => by simp only [wr_n _ _ _ hc]; exact yc c hc, fun j hj => by rw [wr_s, up_n _ _ (by omega), wr_s, up_n _ _ (by omega), wr_s, up_n _ _ (by omega), wr_s, up_n _ _ (by omega), wr_s, up_n _ _ (by omega)]; exact yo j (by omega), Or.inl ?_⟩
                 rw [eK, k4, hs]
                 exact ⟨rfl, by simp [wr_s, upI], by simp [wr_s, upI]⟩)
              | (have k2 : kS (N 86) (N 80 7) s = 2 := by unfold kS; rw [if_neg (by omega), if_pos (by omega)]
                 have n2 : nS (N 86) (N 80 7) s = s + 1 := by unfold nS; rw [if_neg (by omega), if_pos (by omega)]
                 obtain ⟨-, rfl⟩ := hZ.resolve_left (fun z => absurd z.1.1 (by decide))
                 refine ⟨rfl, fun c hc => by rw [wr_n _ _ _ hc, wr_n _ _ _ hc, wr_n _ _ _ hc]; exact yc c hc, fun j hj => by rw [wr_s, up_n _ _ (by omega), wr_s, up_n _ _ (by omega), wr_s, up_n _ _ (by omega)]; exact yo j (by omega), Or.inr ?_⟩
                 rw [eK, k2, eN, n2, hs]
                 exact ⟨by decide, by simp [wr_s, upI, yo, hf], by simp [wr_s, upI], by simp [wr_s, upI, srt], by simp [wr_s, upI], fun z => absurd z (by decide)⟩)
              | (have k3 : kS (N 86) (N 80 7) s = 3 := if_pos (by omega)
                 have n3 : nS (N 86) (N 80 7) s = s := if_pos (by omega)
                 refine ⟨rfl, fun c hc => by rw [wr_n _ _ _ hc, wr_n _ _ _ hc]; exact yc c hc, fun j hj => by rw [wr_s, up_n _ _ (by omega), wr_s, up_n _ _ (by omega)]; exact yo j (by omega), Or.inr ?_⟩
                 rw [eK, k3, eN, n3, hs]
                 exact ⟨by decide, by simp [wr_s, upI, yo, hf], by simp [wr_s, upI], by simp [wr_s, upI, srt], by simp [wr_s, upI, y8], fun z => absurd z (by decide)⟩)
          · refine w_iconst ta_115 rfl ?_
            refine w_goto ta_115 rfl ?_
            refine w_iconst ta_115 rfl ?_
            refine w_cV [_, _, _] _ ta_115 rfl rfl rfl mt_111 rfl rfl rfl rfl (Nat.le_of_ble_eq_true rfl) (fun _ => rfl) rfl (cm_requires _ _ _ 1 (by decide) (by rw [wr_s, up_n _ _ (by decide), wr_s, up_n _ _ (by decide), yo 12 (by decide)]; omega) (by rw [wr_s, up_n _ _ (by decide), wr_s, up_n _ _ (by decide), yo 12 (by decide)]; omega)) ?_
            rintro Z hZ
            have e12 : wr (wr Y 80 9 s) 80 10 3 80 12 = 0 := by rw [wr_s, up_n _ _ (by decide), wr_s, up_n _ _ (by decide), yo 12 (by decide)]; exact hf
            have z8 : Z 80 8 = s := by rcases hZ with ⟨-, rfl⟩ | ⟨-, rfl⟩ <;> simp [wr_s, upI, y8]
            refine w_aload_n ta_115 rfl rfl ?_
            refine w_dup ta_115 rfl rfl ?_
            refine w_getIv 8 (v := s) ta_115 rfl rfl rfl z8 ?_
            refine w_iconst ta_115 rfl ?_
            refine w_iadd ta_115 rfl ?_
            refine w_putI 8 ta_115 rfl rfl rfl ?_
            refine w_vret ta_115 rfl ?_
            first
              | (have k4 : kS (N 86) (N 80 7) s = 4 := by unfold kS; rw [if_neg (by omega), if_neg (by omega), if_neg (by omega), if_neg (by omega)]
                 obtain ⟨-, rfl⟩ := hZ.resolve_right (fun z => z.1 ⟨rfl, e12⟩)
                 refine ⟨rfl, fun c hc => by simp only [wr_n _ _ _ hc]; exact yc c hc, fun j hj => by rw [wr_s, up_n _ _ (by omega), wr_s, up_n _ _ (by omega), wr_s, up_n _ _ (by omega), wr_s, up_n _ _ (by omega), wr_s, up_n _ _ (by omega)]; exact yo j (by omega), Or.inl ?_⟩
                 rw [eK, k4, hs]
                 exact ⟨rfl, by simp [wr_s, upI], by simp [wr_s, upI]⟩)
              | (have k2 : kS (N 86) (N 80 7) s = 2 := by unfold kS; rw [if_neg (by omega), if_pos (by omega)]
                 have n2 : nS (N 86) (N 80 7) s = s + 1 := by unfold nS; rw [if_neg (by omega), if_pos (by omega)]
                 obtain ⟨-, rfl⟩ := hZ.resolve_left (fun z => absurd z.1.1 (by decide))
                 refine ⟨rfl, fun c hc => by rw [wr_n _ _ _ hc, wr_n _ _ _ hc, wr_n _ _ _ hc]; exact yc c hc, fun j hj => by rw [wr_s, up_n _ _ (by omega), wr_s, up_n _ _ (by omega), wr_s, up_n _ _ (by omega)]; exact yo j (by omega), Or.inr ?_⟩
                 rw [eK, k2, eN, n2, hs]
                 exact ⟨by decide, by simp [wr_s, upI, yo, hf], by simp [wr_s, upI], by simp [wr_s, upI, srt], by simp [wr_s, upI], fun z => absurd z (by decide)⟩)
              | (have k3 : kS (N 86) (N 80 7) s = 3 := if_pos (by omega)
                 have n3 : nS (N 86) (N 80 7) s = s := if_pos (by omega)
                 refine ⟨rfl, fun c hc => by rw [wr_n _ _ _ hc, wr_n _ _ _ hc]; exact yc c hc, fun j hj => by rw [wr_s, up_n _ _ (by omega), wr_s, up_n _ _ (by omega)]; exact yo j (by omega), Or.inr ?_⟩
                 rw [eK, k3, eN, n3, hs]
                 exact ⟨by decide, by simp [wr_s, upI, yo, hf], by simp [wr_s, upI], by simp [wr_s, upI, srt], by simp [wr_s, upI, y8], fun z => absurd z (by decide)⟩)
        · refine w_aload_n ta_115 rfl rfl ?_
          refine w_iconst ta_115 rfl ?_
          refine w_putI 10 ta_115 rfl rfl rfl ?_
          refine w_aload_n ta_115 rfl rfl ?_
          refine w_iconst ta_115 rfl ?_
          refine w_putI 11 ta_115 rfl rfl rfl ?_
          have n1 : nS (N 86) (N 80 7) s = rnZ (inB (N 86) 48 57) (N 80 7) s := by unfold nS; rw [if_neg (by omega), if_neg (by omega), if_neg (by omega)]
          refine lp_rdNo D N hT p s _ v hs.symm (by omega) (by omega) (by omega) rfl eK (by rw [eN, n1]) (N 80 7 - s).toNat s _ ?_ (by omega) (by omega) (by omega) rfl
          refine ⟨fun c hc => by rw [wr_n _ _ _ hc, wr_n _ _ _ hc, wr_n _ _ _ hc]; exact yc c hc, fun j hj => by rw [wr_s, up_n _ _ (by omega), wr_s, up_n _ _ (by omega), wr_s, up_n _ _ (by omega)]; exact yo j (by omega), by simp [wr_s, upI, y8], by simp [wr_s, upI], by simp [wr_s, upI], ?_, by simp [wr_s, upI, yo, hf]⟩
          rw [wr_s, up_s, fg_e _ (by omega), vd_0]
      · refine w_aload_n ta_115 rfl rfl ?_
        refine w_iconst ta_115 rfl ?_
        refine w_putI 10 ta_115 rfl rfl rfl ?_
        have nbd := nS_b (t := N 86) (L := N 80 7) sb.2
        have q := lp_rdNm D v (N 80 7 - s).toNat s (wr (wr Y 80 9 s) 80 10 1) (hTZ _ (by simp [wr_s, upI, yo]) (by rw [wr_n _ _ _ (by decide), wr_n _ _ _ (by decide)]; exact yc 86 (by decide))) (by simp [wr_s, upI, y8]) (by rw [show wr (wr Y 80 9 s) 80 10 1 80 7 = N 80 7 by simp [wr_s, upI, yo]]; omega) (by omega) (by rw [show wr (wr Y 80 9 s) 80 10 1 80 7 = N 80 7 by simp [wr_s, upI, yo]]; omega)
        refine q.imp ?_
        rintro r M' ⟨hr, hM⟩
        rw [show wr (wr Y 80 9 s) 80 10 1 80 7 = N 80 7 by simp [wr_s, upI, yo], show wr (wr Y 80 9 s) 80 10 1 86 = N 86 by rw [wr_n _ _ _ (by decide), wr_n _ _ _ (by decide)]; exact yc 86 (by decide)] at hM
        have k0 : kS (N 86) (N 80 7) s = 0 := by unfold kS; rw [if_neg (by omega), if_neg (by omega), if_pos (by omega)]
        have n0 : nS (N 86) (N 80 7) s = rnZ (inB (N 86) 97 122) (N 80 7) s := by unfold nS; rw [if_neg (by omega), if_neg (by omega), if_pos (by omega)]
        refine ⟨hr, fun c hc => by rw [hM, wr_n _ _ _ hc, wr_n _ _ _ hc, wr_n _ _ _ hc]; exact yc c hc, fun j hj => by rw [hM, wr_s, up_n _ _ (by omega), wr_s, up_n _ _ (by omega), wr_s, up_n _ _ (by omega)]; exact yo j (by omega), Or.inr ?_⟩
        rw [eK, k0, eN, n0, hM, hs]
        exact ⟨by decide, by simp [wr_s, upI, yo, hf], by simp [wr_s, upI], by simp [wr_s, upI, srt], by simp [wr_s, upI], fun z => absurd z (by decide)⟩
    · refine w_aload_n ta_115 rfl rfl ?_
      refine w_iconst ta_115 rfl ?_
      refine w_putI 10 ta_115 rfl rfl rfl ?_
      refine w_goto ta_115 rfl ?_
      refine w_vret ta_115 rfl ?_
      first
        | (have k4 : kS (N 86) (N 80 7) s = 4 := by unfold kS; rw [if_neg (by omega), if_neg (by omega), if_neg (by omega), if_neg (by omega)]
           obtain ⟨-, rfl⟩ := hZ.resolve_right (fun z => z.1 ⟨rfl, e12⟩)
           refine ⟨rfl, fun c hc => by simp only [wr_n _ _ _ hc]; exact yc c hc, fun j hj => by rw [wr_s, up_n _ _ (by omega), wr_s, up_n _ _ (by omega), wr_s, up_n _ _ (by omega), wr_s, up_n _ _ (by omega), wr_s, up_n _ _ (by omega)]; exact yo j (by omega), Or.inl ?_⟩
           rw [eK, k4, hs]
           exact ⟨rfl, by simp [wr_s, upI], by simp [wr_s, upI]⟩)
        | (have k2 : kS (N 86) (N 80 7) s = 2 := by unfold kS; rw [if_neg (by omega), if_pos (by omega)]
           have n2 : nS (N 86) (N 80 7) s = s + 1 := by unfold nS; rw [if_neg (by omega), if_pos (by omega)]
           obtain ⟨-, rfl⟩ := hZ.resolve_left (fun z => absurd z.1.1 (by decide))
           refine ⟨rfl, fun c hc => by rw [wr_n _ _ _ hc, wr_n _ _ _ hc, wr_n _ _ _ hc]; exact yc c hc, fun j hj => by rw [wr_s, up_n _ _ (by omega), wr_s, up_n _ _ (by omega), wr_s, up_n _ _ (by omega)]; exact yo j (by omega), Or.inr ?_⟩
           rw [eK, k2, eN, n2, hs]
           exact ⟨by decide, by simp [wr_s, upI, yo, hf], by simp [wr_s, upI], by simp [wr_s, upI, srt], by simp [wr_s, upI], fun z => absurd z (by decide)⟩)
        | (have k3 : kS (N 86) (N 80 7) s = 3 := if_pos (by omega)
           have n3 : nS (N 86) (N 80 7) s = s := if_pos (by omega)
           refine ⟨rfl, fun c hc => by rw [wr_n _ _ _ hc, wr_n _ _ _ hc]; exact yc c hc, fun j hj => by rw [wr_s, up_n _ _ (by omega), wr_s, up_n _ _ (by omega)]; exact yo j (by omega), Or.inr ?_⟩
           rw [eK, k3, eN, n3, hs]
           exact ⟨by decide, by simp [wr_s, upI, yo, hf], by simp [wr_s, upI], by simp [wr_s, upI, srt], by simp [wr_s, upI, y8], fun z => absurd z (by decide)⟩)
  · exfalso; omega
