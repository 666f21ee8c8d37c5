/-! calls that change the pack -/
theorem pkm_3 {M : Mem} (h : 0 ≤ M 3 4 ∧ M 3 4 ≤ 16 ∧ 2 ≤ M 3 5 ∧ M 3 5 ≤ 5 ∧ 0 ≤ M 3 6 ∧ M 3 6 ≤ 999 ∧ 1 ≤ M 3 7 ∧ M 3 7 ≤ 99 ∧ 0 ≤ M 3 8 ∧ M 3 8 ≤ 99 ∧ ∀ i, 0 ≤ i → i < M 3 4 → 1 ≤ M 4 i ∧ M 4 i ≤ 999 ∧ 0 ≤ M 5 i ∧ M 5 i ≤ 999 ∧ 0 ≤ M 6 i ∧ M 6 i < M 3 5) : PkI 3 M := h
theorem PkR.mk {Y : Mem} (hI : PkI 3 Y) (e : Y 81 0 = Y 3 4 ∧ Y 81 1 = Y 3 5 ∧ Y 81 2 = Y 3 6 ∧ Y 81 3 = Y 3 7 ∧ Y 81 4 = Y 3 8) (hc : ∀ i, 0 ≤ i → i < Y 3 4 → Y 81 (5 + i) = Y 4 i ∧ Y 81 (21 + i) = Y 5 i ∧ Y 81 (37 + i) = Y 6 i) : PkR 3 Y (Y 81) := by
  obtain ⟨a0, a1, a2, a3, a4⟩ := e
  refine ⟨hI, a0.symm, a1.symm, a2.symm, a3.symm, a4.symm, fun i i0 i1 => ?_⟩
  obtain ⟨c1, c2, c3⟩ := hc i i0 (by omega)
  exact ⟨c1.symm, c2.symm, c3.symm⟩
/-- the pack and the reference's numbers change alike -/
theorem INV.go {M Y : Mem} (h : INV M) (a : ∀ c, c ≤ 2 ∨ (13 ≤ c ∧ c ≤ 16) ∨ (18 ≤ c ∧ c ≤ 21) ∨ c = 25 ∨ (72 ≤ c ∧ c ≤ 79) ∨ c = 82 ∨ c = 83 ∨ c = 86 ∨ 95 ≤ c → Y c = M c) (b : ∀ j, j = 7 ∨ j = 12 ∨ j = 25 → Y 80 j = M 80 j) (hI : PkI 3 Y) (e : Y 81 0 = Y 3 4 ∧ Y 81 1 = Y 3 5 ∧ Y 81 2 = Y 3 6 ∧ Y 81 3 = Y 3 7 ∧ Y 81 4 = Y 3 8) (hc : ∀ i, 0 ≤ i → i < Y 3 4 → Y 81 (5 + i) = Y 4 i ∧ Y 81 (21 + i) = Y 5 i ∧ Y 81 (37 + i) = Y 6 i) : INV Y :=
  h.kp ⟨fun c hc => a c (by omega), by rw [a 0 (by omega)], by rw [a 0 (by omega)], b 7 (by omega), b 12 (by omega), b 25 (by omega)⟩ (PkR.mk hI e hc)
theorem PkR.all {M : Mem} (h : PkR 3 M (M 81)) : ∀ i, 0 ≤ i → i < M 3 4 → M 81 (5 + i) = M 4 i ∧ M 81 (21 + i) = M 5 i ∧ M 81 (37 + i) = M 6 i := fun i i0 i1 => ⟨h.eqs.2.1 i i0 i1, h.eqs.2.2.1 i i0 i1, h.eqs.2.2.2 i i0 i1⟩
theorem ag_move {M : Mem} (h : INV M) {x g : Int} (hx : inR x) (hg : inR g) : Agr 70 166 [.inl x, .inl g] M := (c_move 38 M h.pk x g hx hg).imp fun v M1 hv => by
  obtain ⟨⟨a0, a1, a2, a3, a4⟩, c1, c2, c3⟩ := h.2.1.eqs
  have hA := h.2.1.all
  obtain ⟨n0, n1, k0, k1, f0, f1, r0, r1, s0, s1, hP⟩ := pkd_3 h.pk
  have e : M1 81 = M 81 := by
    rcases hv with ⟨-, -, e⟩ | ⟨-, -, e⟩
    · rw [e]
    · rw [e, wr_n _ _ _ (by decide)]
  refine (cm_move 38 M1 (h.md.of e) x g hx hg).imp fun v' M2 hv' => ?_
  rw [e] at hv'
  rcases hv with ⟨q, hv, e1⟩ | ⟨q, hv, e1⟩ <;> rcases hv' with ⟨q', hv', e2⟩ | ⟨q', hv', e2⟩
  · subst e1 e2
    exact ⟨by rw [hv', hv], h⟩
  · exfalso; omega
  · exfalso; omega
  · have g6 : M2 6 = upI (M 6) x g := by rw [e2, wr_n _ _ _ (by decide), e1, wr_s]
    have g81 : M2 81 = upI (M 81) (37 + x) g := by rw [e2, wr_s, e]
    have gc : ∀ c, c ≠ 6 → c ≠ 81 → M2 c = M c := fun c h1 h2 => by rw [e2, wr_n _ _ _ h2, e1, wr_n _ _ _ h1]
    refine ⟨by rw [hv', hv]; exact (hA x q.1.1 q.1.2).2.2, h.go (fun c hc => gc c (by omega) (by omega)) (fun j _ => by rw [gc 80 (by decide) (by decide)]) (pkm_3 ?_) ?_ ?_⟩
    · rw [gc 3 (by decide) (by decide), gc 4 (by decide) (by decide), gc 5 (by decide) (by decide), g6]
      refine ⟨n0, n1, k0, k1, f0, f1, r0, r1, s0, s1, fun i i0 i1 => ?_⟩
      have := hP i i0 i1
      by_cases z : i = x
      · rw [z, up_s, ← z]; omega
      · rw [up_n _ _ z]; omega
    · rw [gc 3 (by decide) (by decide), g81, up_n _ _ (by omega), up_n _ _ (by omega), up_n _ _ (by omega), up_n _ _ (by omega), up_n _ _ (by omega)]
      exact ⟨a0, a1, a2, a3, a4⟩
    · rw [gc 3 (by decide) (by decide), gc 4 (by decide) (by decide), gc 5 (by decide) (by decide), g6, g81]
      intro i i0 i1
      obtain ⟨b1, b2, b3⟩ := hA i i0 i1
      refine ⟨by rw [up_n _ _ (by omega)]; exact b1, by rw [up_n _ _ (by omega)]; exact b2, ?_⟩
      by_cases z : i = x
      · rw [z, up_s, up_s]
      · rw [up_n _ _ z, up_n _ _ (by omega)]; exact b3
theorem xcF_cg {f g : Int → Int} {n x y : Int} (h : ∀ i, 0 ≤ i → i < n → f i = g i) (x0 : 0 ≤ x) (x1 : x < n) (y0 : 0 ≤ y) (y1 : y < n) : ∀ i, 0 ≤ i → i < n → xcF f x y i = xcF g x y i := by
  intro i i0 i1
  unfold xcF upI
  rw [h x x0 x1, h y y0 y1, h i i0 i1]
theorem xcF_b {f : Int → Int} {n x y k : Int} (h : ∀ i, 0 ≤ i → i < n → 0 ≤ f i ∧ f i < k) (x0 : 0 ≤ x) (x1 : x < n) (y0 : 0 ≤ y) (y1 : y < n) : ∀ i, 0 ≤ i → i < n → 0 ≤ xcF f x y i ∧ xcF f x y i < k := by
  intro i i0 i1
  have := h x x0 x1
  have := h y y0 y1
  have := h i i0 i1
  unfold xcF upI
  repeat' split
  all_goals omega
theorem ag_swap {M : Mem} (h : INV M) {x y : Int} (hx : inR x) (hy : inR y) : Agr 71 168 [.inl x, .inl y] M := (c_swap 34 M h.pk x y hx hy).imp fun v M1 hv => by
  obtain ⟨⟨a0, a1, a2, a3, a4⟩, c1, c2, c3⟩ := h.2.1.eqs
  have hA := h.2.1.all
  obtain ⟨n0, n1, k0, k1, f0, f1, r0, r1, s0, s1, hP⟩ := pkd_3 h.pk
  have e : M1 81 = M 81 := by
    rcases hv with ⟨-, -, e⟩ | ⟨-, -, e⟩
    · rw [e]
    · rw [e.1 81 (by decide), sc_n _ _ (by decide)]
  refine (cm_swap 37 M1 (h.md.of e) x y hx hy).imp fun v' M2 hv' => ?_
  rw [e, mHe e, mGe e, a0, a1] at hv'
  rcases hv with ⟨q, hv, e1⟩ | ⟨q, hv, e1⟩ <;> rcases hv' with ⟨q', hv', e2⟩ | ⟨q', hv', N, hN, e2⟩
  · subst e1 e2
    exact ⟨by rw [hv', hv], h⟩
  · exfalso; omega
  · exfalso; omega
  · have g6 : M2 6 = xcF (M 6) x y := by rw [e2.1 6 (by decide), hN, sc_n _ _ (by decide), e1.1 6 (by decide), sc_s]; rfl
    have gG : mG M2 = xcF (mG M) x y := by rw [mGe (e2.1 81 (by decide)), hN, ← mGe e]; rw [e.symm]; exact xc_G M1 x y
    have gl : ∀ z, z < 37 → M2 81 z = M 81 z := fun z hz => by rw [e2.1 81 (by decide), hN, ← e]; exact xc_e q.1.1 q.2.1 hz
    have gc : ∀ c, c ≠ 6 → c ≠ 7 → c ≠ 81 → c ≠ 88 → M2 c = M c := fun c h1 h2 h3 h4 => by rw [e2.1 c h4, hN, sc_n _ _ h3, e1.1 c h2, sc_n _ _ h1]
    have hx6 := xcF_cg c3 q.1.1 q.1.2 q.2.1 q.2.2
    refine ⟨?_, h.go (fun c hc => gc c (by omega) (by omega) (by omega) (by omega)) (fun j _ => by rw [gc 80 (by decide) (by decide) (by decide) (by decide)]) (pkm_3 ?_) ?_ ?_⟩
    · rw [hv', hv, sumG_cg2 c2 hx6]; rfl
    · rw [gc 3 (by decide) (by decide) (by decide) (by decide), gc 4 (by decide) (by decide) (by decide) (by decide), gc 5 (by decide) (by decide) (by decide) (by decide), g6]
      refine ⟨n0, n1, k0, k1, f0, f1, r0, r1, s0, s1, fun i i0 i1 => ?_⟩
      have := hP i i0 i1
      have := xcF_b (f := M 6) (k := M 3 5) (fun i i0 i1 => by have := hP i i0 i1; omega) q.1.1 q.1.2 q.2.1 q.2.2 i i0 i1
      omega
    · rw [gc 3 (by decide) (by decide) (by decide) (by decide), gl 0 (by omega), gl 1 (by omega), gl 2 (by omega), gl 3 (by omega), gl 4 (by omega)]
      exact ⟨a0, a1, a2, a3, a4⟩
    · rw [gc 3 (by decide) (by decide) (by decide) (by decide), gc 4 (by decide) (by decide) (by decide) (by decide), gc 5 (by decide) (by decide) (by decide) (by decide), g6]
      intro i i0 i1
      obtain ⟨b1, b2, b3⟩ := hA i i0 i1
      refine ⟨by rw [gl _ (by omega)]; exact b1, by rw [gl _ (by omega)]; exact b2, ?_⟩
      rw [← hx6 i i0 i1, ← gG]
theorem ag_set {M : Mem} (h : INV M) {x w : Int} (hx : inR x) (hw : inR w) : Agr 75 173 [.inl x, .inl w] M := (c_set 38 M h.pk x w hx hw).imp fun v M1 hv => by
  obtain ⟨⟨a0, a1, a2, a3, a4⟩, c1, c2, c3⟩ := h.2.1.eqs
  have hA := h.2.1.all
  obtain ⟨n0, n1, k0, k1, f0, f1, r0, r1, s0, s1, hP⟩ := pkd_3 h.pk
  have e : M1 81 = M 81 := by
    rcases hv with ⟨-, -, e⟩ | ⟨-, -, e⟩
    · rw [e]
    · rw [e, wr_n _ _ _ (by decide), wr_n _ _ _ (by decide)]
  refine (cm_set 38 M1 (h.md.of e) x w hx hw).imp fun v' M2 hv' => ?_
  rw [e] at hv'
  rcases hv with ⟨q, hv, e1⟩ | ⟨q, hv, e1⟩ <;> rcases hv' with ⟨q', hv', e2⟩ | ⟨q', hv', e2⟩
  · subst e1 e2
    exact ⟨by rw [hv', hv], h⟩
  · exfalso; omega
  · exfalso; omega
  · have g4 : M2 4 = upI (M 4) x w := by rw [e2, wr_n _ _ _ (by decide), wr_n _ _ _ (by decide), e1, wr_n _ _ _ (by decide), wr_s]
    have g5 : M2 5 = upI (M 5) x w := by rw [e2, wr_n _ _ _ (by decide), wr_n _ _ _ (by decide), e1, wr_s, wr_n _ _ _ (by decide)]
    have g81 : M2 81 = upI (upI (M 81) (5 + x) w) (21 + x) w := by rw [e2, wr_s, wr_s, e]
    have gc : ∀ c, c ≠ 4 → c ≠ 5 → c ≠ 81 → M2 c = M c := fun c h1 h2 h3 => by rw [e2, wr_n _ _ _ h3, wr_n _ _ _ h3, e1, wr_n _ _ _ h2, wr_n _ _ _ h1]
    refine ⟨by rw [hv', hv]; exact (hA x q.1.1 q.1.2).1, h.go (fun c hc => gc c (by omega) (by omega) (by omega)) (fun j _ => by rw [gc 80 (by decide) (by decide) (by decide)]) (pkm_3 ?_) ?_ ?_⟩
    · rw [gc 3 (by decide) (by decide) (by decide), gc 6 (by decide) (by decide) (by decide), g4, g5]
      refine ⟨n0, n1, k0, k1, f0, f1, r0, r1, s0, s1, fun i i0 i1 => ?_⟩
      have := hP i i0 i1
      by_cases z : i = x
      · rw [z, up_s, up_s, ← z]; omega
      · rw [up_n _ _ z, up_n _ _ z]; omega
    · rw [gc 3 (by decide) (by decide) (by decide), g81]
      refine ⟨?_, ?_, ?_, ?_, ?_⟩ <;> rw [up_n _ _ (by omega), up_n _ _ (by omega)] <;> assumption
    · rw [gc 3 (by decide) (by decide) (by decide), gc 6 (by decide) (by decide) (by decide), g4, g5, g81]
      intro i i0 i1
      obtain ⟨b1, b2, b3⟩ := hA i i0 i1
      by_cases z : i = x
      · rw [z, up_s, up_s, up_s, up_n _ _ (by omega), up_s, up_n _ _ (by omega), up_n _ _ (by omega), ← z]
        exact ⟨rfl, rfl, b3⟩
      · rw [up_n _ _ z, up_n _ _ z, up_n _ _ (by omega), up_n _ _ (by omega), up_n _ _ (by omega), up_n _ _ (by omega), up_n _ _ (by omega), up_n _ _ (by omega)]
        exact ⟨b1, b2, b3⟩
theorem ag_rate {M : Mem} (h : INV M) {x w : Int} (hx : inR x) (hw : inR w) : Agr 76 174 [.inl x, .inl w] M := (c_rate 39 M h.pk x w hx hw).imp fun v M1 hv => by
  obtain ⟨⟨a0, a1, a2, a3, a4⟩, c1, c2, c3⟩ := h.2.1.eqs
  have hA := h.2.1.all
  obtain ⟨n0, n1, k0, k1, f0, f1, r0, r1, s0, s1, hP⟩ := pkd_3 h.pk
  have e : M1 81 = M 81 := by
    rcases hv with ⟨-, -, e⟩ | ⟨-, -, e⟩
    · rw [e]
    · rw [e, wr_n _ _ _ (by decide)]
  refine (cm_rate 39 M1 (h.md.of e) x w hx hw).imp fun v' M2 hv' => ?_
  rw [e] at hv'
  rcases hv with ⟨q, hv, e1⟩ | ⟨q, hv, e1⟩ <;> rcases hv' with ⟨q', hv', e2⟩ | ⟨q', hv', e2⟩
  · subst e1 e2
    exact ⟨by rw [hv', hv], h⟩
  · exact absurd q' q
  · exact absurd q q'
  · have g3 : M2 3 = upI (M 3) (6 + x) w := by rw [e2, wr_n _ _ _ (by decide), e1, wr_s]
    have g81 : M2 81 = upI (M 81) (2 + x) w := by rw [e2, wr_s, e]
    have gc : ∀ c, c ≠ 3 → c ≠ 81 → M2 c = M c := fun c h1 h2 => by rw [e2, wr_n _ _ _ h2, e1, wr_n _ _ _ h1]
    unfold raB at q
    have hx3 : x = 0 ∨ x = 1 ∨ x = 2 := by omega
    refine ⟨?_, h.go (fun c hc => gc c (by omega) (by omega)) (fun j _ => by rw [gc 80 (by decide) (by decide)]) (pkm_3 ?_) ?_ ?_⟩
    · rw [hv', hv]
      rcases hx3 with rfl | rfl | rfl
      · exact a2
      · exact a3
      · exact a4
    · rw [gc 4 (by decide) (by decide), gc 5 (by decide) (by decide), gc 6 (by decide) (by decide), g3, up_n _ _ (show (4 : Int) ≠ 6 + x by omega), up_n _ _ (show (5 : Int) ≠ 6 + x by omega)]
      rcases hx3 with rfl | rfl | rfl
      · rw [show (6 : Int) + 0 = 6 from rfl, up_s, up_n _ _ (by decide), up_n _ _ (by decide)]
        exact ⟨n0, n1, k0, k1, by omega, by omega, r0, r1, s0, s1, hP⟩
      · rw [show (6 : Int) + 1 = 7 from rfl, up_s, up_n _ _ (by decide), up_n _ _ (by decide)]
        exact ⟨n0, n1, k0, k1, f0, f1, by omega, by omega, s0, s1, hP⟩
      · rw [show (6 : Int) + 2 = 8 from rfl, up_s, up_n _ _ (by decide), up_n _ _ (by decide)]
        exact ⟨n0, n1, k0, k1, f0, f1, r0, r1, by omega, by omega, hP⟩
    · rw [g3, g81]
      rcases hx3 with rfl | rfl | rfl <;> refine ⟨?_, ?_, ?_, ?_, ?_⟩ <;> first
        | (rw [up_n _ _ (by decide), up_n _ _ (by decide)]; assumption)
        | (exact (up_s _ _ _).trans (up_s _ _ _).symm)
    · rw [gc 4 (by decide) (by decide), gc 5 (by decide) (by decide), gc 6 (by decide) (by decide), g3, g81, up_n _ _ (show (4 : Int) ≠ 6 + x by omega)]
      intro i i0 i1
      rw [up_n _ _ (by omega), up_n _ _ (by omega), up_n _ _ (by omega)]
      exact hA i i0 i1
theorem ag_groups {M : Mem} (h : INV M) {x : Int} (hx : inR x) : Agr 77 175 [.inl x] M := (c_groups 18 M h.pk x hx).imp fun v M1 hv => by
  obtain ⟨⟨a0, a1, a2, a3, a4⟩, c1, c2, c3⟩ := h.2.1.eqs
  have hA := h.2.1.all
  obtain ⟨n0, n1, k0, k1, f0, f1, r0, r1, s0, s1, hP⟩ := pkd_3 h.pk
  have e : M1 81 = M 81 := by
    rcases hv with ⟨-, -, e⟩ | ⟨-, -, e, -⟩
    · rw [e]
    · exact e 81 (by decide) (by decide) (by decide)
  refine (cm_groups 38 M1 (h.md.of e) x hx).imp fun v' M2 hv' => ?_
  rw [e] at hv'
  rcases hv with ⟨q, hv, e1⟩ | ⟨q, hv, d1, d2, d3⟩ <;> rcases hv' with ⟨q', hv', e2⟩ | ⟨q', hv', b1, b2, b3⟩
  · subst e1 e2
    exact ⟨by rw [hv', hv], h⟩
  · exact absurd q' q
  · exact absurd q q'
  · have g3 : M2 3 = upI (M 3) 5 x := by rw [b1 3 (by decide) (by decide)]; exact d2
    have g6 : ∀ i, 0 ≤ i → i < M 3 4 → M2 6 i = i % x := fun i i0 i1 => by rw [b1 6 (by decide) (by decide)]; exact d3 i i0 i1
    have gc : ∀ c, c ≠ 3 → c ≠ 6 → c < 27 ∨ 70 < c → c ≠ 81 → c ≠ 89 → M2 c = M c := fun c h1 h2 h3 h4 h5 => by rw [b1 c h4 h5]; exact d1 c h1 h2 h3
    have z4 : upI (M 3) 5 x 4 = M 3 4 := up_n _ _ (by decide)
    refine ⟨by rw [hv', hv]; exact a1, h.go (fun c hc => gc c (by omega) (by omega) (by omega) (by omega) (by omega)) (fun j _ => by rw [gc 80 (by decide) (by decide) (by decide) (by decide) (by decide)]) (pkm_3 ?_) ?_ ?_⟩
    · rw [gc 4 (by decide) (by decide) (by decide) (by decide) (by decide), gc 5 (by decide) (by decide) (by decide) (by decide) (by decide), g3, z4, up_s, up_n _ _ (by decide), up_n _ _ (by decide), up_n _ _ (by decide)]
      refine ⟨n0, n1, q.1, q.2, f0, f1, r0, r1, s0, s1, fun i i0 i1 => ?_⟩
      have := hP i i0 i1
      have := Int.emod_nonneg i (show x ≠ 0 by omega)
      have := Int.emod_lt_of_pos i (show 0 < x by omega)
      rw [g6 i i0 i1]
      omega
    · rw [g3, b2 0 (by omega), b2 1 (by omega), b2 2 (by omega), b2 3 (by omega), b2 4 (by omega), z4, up_s, up_s, up_n _ _ (by decide), up_n _ _ (by decide), up_n _ _ (by decide), up_n _ _ (by decide), up_n _ _ (by decide), up_n _ _ (by decide), up_n _ _ (by decide)]
      exact ⟨a0, rfl, a2, a3, a4⟩
    · rw [gc 4 (by decide) (by decide) (by decide) (by decide) (by decide), gc 5 (by decide) (by decide) (by decide) (by decide) (by decide), g3, z4]
      intro i i0 i1
      obtain ⟨b4, b5, b6⟩ := hA i i0 i1
      refine ⟨by rw [b2 _ (by omega), up_n _ _ (by omega)]; exact b4, by rw [b2 _ (by omega), up_n _ _ (by omega)]; exact b5, ?_⟩
      rw [b3 i i0 (by omega), g6 i i0 i1]
theorem ag_take {M : Mem} (h : INV M) {w : Int} (hw : inR w) : Agr 65 158 [.inl w] M := (c_take 18 M h.pk w hw).imp fun v M1 hv => by
  obtain ⟨⟨a0, a1, a2, a3, a4⟩, c1, c2, c3⟩ := h.2.1.eqs
  have hA := h.2.1.all
  obtain ⟨n0, n1, k0, k1, f0, f1, r0, r1, s0, s1, hP⟩ := pkd_3 h.pk
  have e : M1 81 = M 81 := by
    rcases hv with ⟨-, -, e⟩ | ⟨-, -, -, e⟩ | ⟨-, -, -, e⟩
    · rw [e]
    · rw [e]
    · exact e.1 81 (by decide) (by decide) (by decide)
  refine (cm_take 34 M1 (h.md.of e) w hw).imp fun v' M2 hv' => ?_
  rw [mCe e, mHe e, e, a0, a1] at hv'
  rcases hv with ⟨q, hv, e1⟩ | ⟨q, p, hv, e1⟩ | ⟨q, p, hv, d1, d2⟩ <;> rcases hv' with ⟨q', hv', e2⟩ | ⟨q', p', hv', e2⟩ | ⟨q', p', hv', b1, b7, b12, b25, b2, b3⟩
  · subst e1 e2
    exact ⟨by rw [hv', hv], h⟩
  · exfalso; omega
  · exfalso; omega
  · exfalso; omega
  · subst e1 e2
    exact ⟨by rw [hv', hv], h⟩
  · exfalso; omega
  · exfalso; omega
  · exfalso; omega
  · rw [e] at b2
    rw [mCe e, e, a0, a1] at b3
    have wc := wayZ_cg c1 w (show 1 ≤ M 3 5 by omega)
    have g6 : ∀ i, 0 ≤ i → i < M 3 4 → M2 6 i = wayZ w (M 4) (M 3 4) (M 3 5) i := fun i i0 i1 => by rw [b1 6 (by decide)]; exact d2 i i0 i1
    have gc : ∀ c, c ≠ 6 → c ≠ 7 → c < 27 ∨ 70 < c → c < 80 ∨ (82 ≤ c ∧ c ≤ 83) ∨ c = 86 ∨ 95 ≤ c → M2 c = M c := fun c h1 h2 h3 h4 => by rw [b1 c h4]; exact d1 c h1 h2 h3
    have m80 : M1 80 = M 80 := d1 80 (by decide) (by decide) (by decide)
    refine ⟨?_, h.go (fun c hc => gc c (by omega) (by omega) (by omega) (by omega)) (fun j hj => ?_) (pkm_3 ?_) ?_ ?_⟩
    · rw [hv', hv, sumG_cg2 c2 wc]
    · rcases hj with rfl | rfl | rfl
      · rw [b7, m80]
      · rw [b12, m80]
      · rw [b25, m80]
    · rw [gc 3 (by decide) (by decide) (by decide) (by decide), gc 4 (by decide) (by decide) (by decide) (by decide), gc 5 (by decide) (by decide) (by decide) (by decide)]
      refine ⟨n0, n1, k0, k1, f0, f1, r0, r1, s0, s1, fun i i0 i1 => ?_⟩
      have := hP i i0 i1
      have := wayZ_b (w := w) (ch := M 4) k0 k1 n1 (fun i i0 i1 => by have := hP i i0 i1; omega) i i0 i1
      rw [g6 i i0 i1]
      omega
    · rw [gc 3 (by decide) (by decide) (by decide) (by decide), b2 0 (by omega), b2 1 (by omega), b2 2 (by omega), b2 3 (by omega), b2 4 (by omega)]
      exact ⟨a0, a1, a2, a3, a4⟩
    · rw [gc 3 (by decide) (by decide) (by decide) (by decide), gc 4 (by decide) (by decide) (by decide) (by decide), gc 5 (by decide) (by decide) (by decide) (by decide)]
      intro i i0 i1
      obtain ⟨b4, b5, b6⟩ := hA i i0 i1
      refine ⟨by rw [b2 _ (by omega)]; exact b4, by rw [b2 _ (by omega)]; exact b5, ?_⟩
      rw [b3 i i0 i1, g6 i i0 i1]
      exact wc i i0 i1
theorem ag_bleed {M : Mem} (h : INV M) {x : Int} (hx : inR x) : Agr 78 178 [.inl x] M := (c_bleed 33 M h.pk x hx).imp fun v M1 hv => by
  obtain ⟨⟨a0, a1, a2, a3, a4⟩, c1, c2, c3⟩ := h.2.1.eqs
  have hA := h.2.1.all
  obtain ⟨n0, n1, k0, k1, f0, f1, r0, r1, s0, s1, hP⟩ := pkd_3 h.pk
  have e : M1 81 = M 81 := by
    rcases hv with ⟨-, -, e⟩ | ⟨-, -, e⟩
    · rw [e]
    · exact e.1 81 (by decide) (by decide)
  refine (cm_bleed 36 M1 (h.md.of e) x hx).imp fun v' M2 hv' => ?_
  rw [mGe e, mHe e, e, a0, a1, a2, a3, a4] at hv'
  rcases hv with ⟨q, hv, e1⟩ | ⟨q, hv, d1, d2⟩ <;> rcases hv' with ⟨q', hv', e2⟩ | ⟨q', hv', b1, b2, b3⟩
  · subst e1 e2
    exact ⟨by rw [hv', hv], h⟩
  · exact absurd q' q
  · exact absurd q q'
  · rw [e] at b2 b3
    rw [a0] at b3
    have rc := rt_cg (fl := M 3 6) (rt := M 3 7) (sl := M 3 8) n0 (show 1 ≤ M 3 5 by omega) c3 x.toNat (mH M) (M 5) c2
    have g5 : M2 5 = rtH (M 6) (M 3 4) (M 3 5) (M 3 6) (M 3 7) (M 3 8) x.toNat (M 5) := by rw [b1 5 (by decide) (by decide)]; exact d2
    have gc : ∀ c, c ≠ 5 → c ≠ 7 → c ≠ 81 → c ≠ 88 → M2 c = M c := fun c h1 h2 h3 h4 => by rw [b1 c h3 h4]; exact d1 c h1 h2
    refine ⟨by rw [hv', hv]; exact rc.1, h.go (fun c hc => gc c (by omega) (by omega) (by omega) (by omega)) (fun j _ => by rw [gc 80 (by decide) (by decide) (by decide) (by decide)]) (pkm_3 ?_) ?_ ?_⟩
    · rw [gc 3 (by decide) (by decide) (by decide) (by decide), gc 4 (by decide) (by decide) (by decide) (by decide), gc 6 (by decide) (by decide) (by decide) (by decide), g5]
      refine ⟨n0, n1, k0, k1, f0, f1, r0, r1, s0, s1, fun i i0 i1 => ?_⟩
      have := hP i i0 i1
      have := rtH_b (home := M 6) (k := M 3 5) (sl := M 3 8) f0 (show 0 ≤ M 3 7 by omega) n0 x.toNat (M 5) (fun i i0 i1 => by have := hP i i0 i1; omega) i i0 i1
      omega
    · rw [gc 3 (by decide) (by decide) (by decide) (by decide), b2 0 (by omega), b2 1 (by omega), b2 2 (by omega), b2 3 (by omega), b2 4 (by omega)]
      exact ⟨a0, a1, a2, a3, a4⟩
    · rw [gc 3 (by decide) (by decide) (by decide) (by decide), gc 4 (by decide) (by decide) (by decide) (by decide), gc 6 (by decide) (by decide) (by decide) (by decide), g5]
      intro i i0 i1
      obtain ⟨b4, b5, b6⟩ := hA i i0 i1
      refine ⟨by rw [b2 _ (by omega)]; exact b4, ?_, by rw [b2 _ (by omega)]; exact b6⟩
      rw [b3 i i0 i1]
      exact rc.2 i i0 i1
theorem ag_fill {M : Mem} (h : INV M) : Agr 80 180 [] M := (c_fillP 36 M h.pk).imp fun v M1 ⟨hv, e1⟩ => by
  obtain ⟨⟨a0, a1, a2, a3, a4⟩, c1, c2, c3⟩ := h.2.1.eqs
  have hA := h.2.1.all
  obtain ⟨n0, n1, k0, k1, f0, f1, r0, r1, s0, s1, hP⟩ := pkd_3 h.pk
  have e : M1 81 = M 81 := by rw [e1, sc_n _ _ (by decide)]
  refine (cm_fill 39 M1 (h.md.of e)).imp fun v' M2 ⟨hv', e2⟩ => ?_
  rw [mCe e, mHe e, e, a0] at hv'
  rw [e, a0] at e2
  have g5 : ∀ i, 0 ≤ i → i < M 3 4 → M2 5 i = M 4 i := fun i i0 i1 => by
    rw [e2, sc_n _ _ (by decide), e1, sc_s]
    unfold cpI
    rw [if_pos (by omega), show 0 + (i - 0) = i by omega]
  have g81 : M2 81 = fiF (M 81) (M 3 4) := by rw [e2, sc_s]
  have gc : ∀ c, c ≠ 5 → c ≠ 81 → M2 c = M c := fun c h1 h2 => by rw [e2, sc_n _ _ h2, e1, sc_n _ _ h1]
  refine ⟨by rw [hv', hv, sumZ_cg c1, sumZ_cg c2], h.go (fun c hc => gc c (by omega) (by omega)) (fun j _ => by rw [gc 80 (by decide) (by decide)]) (pkm_3 ?_) ?_ ?_⟩
  · rw [gc 3 (by decide) (by decide), gc 4 (by decide) (by decide), gc 6 (by decide) (by decide)]
    refine ⟨n0, n1, k0, k1, f0, f1, r0, r1, s0, s1, fun i i0 i1 => ?_⟩
    have := hP i i0 i1
    rw [g5 i i0 i1]
    omega
  · rw [gc 3 (by decide) (by decide), g81]
    unfold fiF
    rw [if_neg (by omega), if_neg (by omega), if_neg (by omega), if_neg (by omega), if_neg (by omega)]
    exact ⟨a0, a1, a2, a3, a4⟩
  · rw [gc 3 (by decide) (by decide), gc 4 (by decide) (by decide), gc 6 (by decide) (by decide), g81]
    intro i i0 i1
    obtain ⟨b4, b5, b6⟩ := hA i i0 i1
    unfold fiF
    rw [if_neg (by omega), if_pos (by omega), if_neg (by omega), g5 i i0 i1, show 21 + i - 16 = 5 + i by omega]
    exact ⟨b4, b4, b6⟩
