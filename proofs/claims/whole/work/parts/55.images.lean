/-! text, images, sheets side by side -/
theorem INV.tp {M Y : Mem} (h : INV M) (bc : ∀ c, c ≠ 1 → c ≠ 2 → c ≠ 80 → c ≠ 86 → Y c = M c) (b80 : ∀ j, j ≠ 7 → Y 80 j = M 80 j) (t : Ta Y) : INV Y := by
  obtain ⟨hT, hP, hF, hM, hS⟩ := h
  have e : ∀ c, (3 ≤ c ∧ c < 80) ∨ c = 0 ∨ (81 ≤ c ∧ c ≤ 85) ∨ 87 ≤ c → Y c = M c := fun c hc => bc c (by omega) (by omega) (by omega) (by omega)
  exact ⟨t, hP.of (e 3 (by omega)) (e 4 (by omega)) (e 5 (by omega)) (e 6 (by omega)) (fun z _ _ => by rw [e 81 (by omega)]), ⟨by rw [b80 12 (by decide), e 0 (by omega)]; exact hF.1, by rw [b80 25 (by decide), e 0 (by omega)]; exact hF.2⟩, ⟨hM.1.of (e 25 (by omega)) (e 83 (by omega)) (e 82 (by omega)) (e 13 (by omega)) (e 14 (by omega)) (e 15 (by omega)) (e 16 (by omega)), hM.2.of (e 25 (by omega)) (e 83 (by omega)) (e 82 (by omega)) (e 18 (by omega)) (e 19 (by omega)) (e 20 (by omega)) (e 21 (by omega))⟩, hS.of (fun c hc => e c (by omega))⟩
theorem ag_feed {M : Mem} (h : INV M) {x : Int} (hx : inR x) : Agr 58 109 [.inl x] M := (c_feed 39 M x hx h.1.1.1 h.1.1.2.1).imp fun v M1 hv => by
  obtain ⟨⟨l0, l1, hb⟩, e7, e86⟩ := h.1
  have ec : ∀ c, c ≠ 1 → c ≠ 2 → M1 c = M c := by
    rcases hv with ⟨-, -, e⟩ | ⟨-, -, -, e⟩ | ⟨-, -, -, e⟩
    · intro c _ _; rw [e]
    · intro c _ _; rw [e]
    · intro c h1 h2; rw [e, wr_n _ _ _ h1, wr_n _ _ _ h2]
  have m7 : M1 80 7 = M 1 1 := by rw [ec 80 (by decide) (by decide)]; exact e7
  refine (cm_feed 39 M1 x hx (by omega) (by omega)).imp fun v' M2 hv' => ?_
  rw [m7] at hv'
  rcases hv with ⟨q, hv, e1⟩ | ⟨q, p, hv, e1⟩ | ⟨q, p, hv, e1⟩ <;> rcases hv' with ⟨q', hv', e2⟩ | ⟨q', p', hv', e2⟩ | ⟨q', p', hv', e2⟩
  · subst e1 e2
    exact ⟨by rw [hv', hv], h⟩
  · exfalso; omega
  · exfalso; omega
  · exfalso; omega
  · subst e1 e2
    exact ⟨by rw [hv', hv], h⟩
  · exfalso; omega
  · exfalso; omega
  · exfalso; omega
  · have g1 : M2 1 1 = M 1 1 + 1 := by rw [e2, wr_n _ _ _ (by decide), wr_n _ _ _ (by decide), e1, wr_s, up_s]
    have g2 : M2 2 = upI (M 2) (M 1 1) x := by rw [e2, wr_n _ _ _ (by decide), wr_n _ _ _ (by decide), e1, wr_n _ _ _ (by decide), wr_s]
    have g7 : M2 80 7 = M 1 1 + 1 := by rw [e2, wr_s, up_s]
    have g86 : M2 86 = upI (M 2) (M 1 1) x := by rw [e2, wr_n _ _ _ (by decide), wr_s, ec 86 (by decide) (by decide), e86]
    refine ⟨by rw [hv', hv], h.tp (fun c h1 h2 h3 h4 => by rw [e2, wr_n _ _ _ h3, wr_n _ _ _ h4]; exact ec c h1 h2) (fun j hj => by rw [e2, wr_s, up_n _ _ hj, wr_n _ _ _ (by decide), ec 80 (by decide) (by decide)]) ⟨⟨by omega, by omega, fun i i0 i1 => ?_⟩, by rw [g7, g1], by rw [g86, g2]⟩⟩
    rw [g2]
    by_cases z : i = M 1 1
    · rw [z, up_s]; exact q
    · rw [up_n _ _ z]; exact hb i i0 i1
theorem ag_end {M : Mem} (h : INV M) {x : Int} (hx : inR x) : Agr 59 110 [.inl x] M := (c_end 39 M x hx h.1.1.1 h.1.1.2.1).imp fun v M1 hv => by
  obtain ⟨⟨l0, l1, hb⟩, e7, e86⟩ := h.1
  have ec : ∀ c, c ≠ 1 → M1 c = M c := by
    rcases hv with ⟨-, -, e⟩ | ⟨-, -, e⟩
    · intro c _; rw [e]
    · intro c h1; rw [e, wr_n _ _ _ h1]
  have m7 : M1 80 7 = M 1 1 := by rw [ec 80 (by decide)]; exact e7
  refine (cm_end 39 M1 x hx (by omega) (by omega)).imp fun v' M2 hv' => ?_
  rw [m7] at hv'
  rcases hv with ⟨q, hv, e1⟩ | ⟨q, hv, e1⟩ <;> rcases hv' with ⟨q', hv', e2⟩ | ⟨q', hv', e2⟩
  · subst e1 e2
    exact ⟨by rw [hv', hv], h⟩
  · exact absurd q' q
  · exact absurd q q'
  · have g1 : M2 1 1 = x := by rw [e2, wr_n _ _ _ (by decide), e1, wr_s, up_s]
    have g2 : M2 2 = M 2 := by rw [e2, wr_n _ _ _ (by decide), ec 2 (by decide)]
    have g7 : M2 80 7 = x := by rw [e2, wr_s, up_s]
    have g86 : M2 86 = M 86 := by rw [e2, wr_n _ _ _ (by decide), ec 86 (by decide)]
    exact ⟨by rw [hv', hv], h.tp (fun c h1 h2 h3 h4 => by rw [e2, wr_n _ _ _ h3]; exact ec c h1) (fun j hj => by rw [e2, wr_s, up_n _ _ hj, ec 80 (by decide)]) ⟨⟨by omega, by omega, fun i i0 i1 => by rw [g2]; exact hb i i0 i1⟩, by rw [g7, g1], by rw [g86, g2]; exact e86⟩⟩
theorem ag_text {M : Mem} (h : INV M) : Agr 60 121 [] M := (c_text 18 M h.1.1).imp fun v M1 ht => by
  obtain ⟨hTa, e7, e86⟩ := h.1
  obtain ⟨l0, l1, hb⟩ := id hTa
  have hTM := h.1.m
  obtain ⟨u0, u2, u1, u9, hv⟩ := ht
  have m80 : M1 80 = M 80 := u0 80 (by decide) (by decide) (by decide) (by decide)
  have m86 : M1 86 = M 86 := u0 86 (by decide) (by decide) (by decide) (by decide)
  refine (cm_text 35 M1 (hTM.of (by rw [m80]) m86)).imp fun v' M2 ht' => ?_
  obtain ⟨b0, b7, b25, hv'⟩ := ht'
  rw [m80, m86, e7, e86] at hv'
  generalize txZ (M 2) (M 1 1) = S at hv hv'
  have hT2 : Ta M2 := ⟨⟨by rw [b0 1 (by omega), u1]; decide, by rw [b0 1 (by omega), u1]; decide, fun i i0 i1 => by rw [b0 2 (by omega), u2]; exact hb i i0 i1⟩, by rw [b7, b0 1 (by omega), u1], by rw [b0 86 (by omega), m86, b0 2 (by omega), u2]; exact e86⟩
  have hS2 : ShA M2 := h.2.2.2.2.of (fun c hc => by rw [b0 c (by omega)]; exact u0 c (by omega) (by omega) (by omega) (by omega))
  have e25 : M2 80 25 = M2 0 9 := by rw [b25, m80, b0 0 (by omega), u9]; exact h.2.2.1.2
  rcases hv with ⟨S1, S5, hv, c8, cc, c25⟩ | ⟨S1, hv, c8, c0, c1, hDI, cI, cC⟩ <;> rcases hv' with ⟨S1', S5', hv', d12, d81, d83⟩ | ⟨S1', hv', d12, d0, d1, hDI', dI, dC⟩
  · have e : ∀ c, (3 ≤ c ∧ c ≤ 6) ∨ (13 ≤ c ∧ c ≤ 16) ∨ (18 ≤ c ∧ c ≤ 21) ∨ c = 25 → M2 c = M c := fun c hc => by
      rw [b0 c (by omega)]
      rcases hc with q | q | q | q
      · exact cc c q.1 q.2
      · exact u0 c (by omega) (by omega) (by omega) (by omega)
      · exact u0 c (by omega) (by omega) (by omega) (by omega)
      · rw [q]; exact c25
    have g81 : M2 81 = M 81 := by rw [d81]; exact u0 81 (by decide) (by decide) (by decide) (by decide)
    have g82 : M2 82 = M 82 := by rw [b0 82 (by omega)]; exact u0 82 (by decide) (by decide) (by decide) (by decide)
    have g83 : M2 83 = M 83 := by rw [d83]; exact u0 83 (by decide) (by decide) (by decide) (by decide)
    exact ⟨by rw [hv', hv], hT2, h.2.1.of (e 3 (by omega)) (e 4 (by omega)) (e 5 (by omega)) (e 6 (by omega)) (fun z _ _ => by rw [g81]), ⟨by rw [d12, b0 0 (by omega), c8], e25⟩, ⟨h.2.2.2.1.1.of (e 25 (by omega)) g83 g82 (e 13 (by omega)) (e 14 (by omega)) (e 15 (by omega)) (e 16 (by omega)), h.2.2.2.1.2.of (e 25 (by omega)) g83 g82 (e 18 (by omega)) (e 19 (by omega)) (e 20 (by omega)) (e 21 (by omega))⟩, hS2⟩
  · exfalso; omega
  · exfalso; omega
  · obtain ⟨q0, q1, q2, q3, q4, q5, q6, q7, q8, q9, hc⟩ := hDI
    have g3 : ∀ j, 0 ≤ j → j < 5 → M2 3 (4 + j) = S.2.2.2.1 j := fun j j0 j1 => by rw [b0 3 (by omega)]; exact cI j j0 j1
    have z0 : M2 3 4 = S.2.2.2.1 0 := g3 0 (by omega) (by omega)
    have z1 : M2 3 5 = S.2.2.2.1 1 := g3 1 (by omega) (by omega)
    have z2 : M2 3 6 = S.2.2.2.1 2 := g3 2 (by omega) (by omega)
    have z3 : M2 3 7 = S.2.2.2.1 3 := g3 3 (by omega) (by omega)
    have z4 : M2 3 8 = S.2.2.2.1 4 := g3 4 (by omega) (by omega)
    have gC : ∀ i, 0 ≤ i → i < S.2.2.2.1 0 → M2 4 i = S.2.2.2.2.1 i ∧ M2 5 i = S.2.2.2.2.1 i ∧ M2 6 i = i % S.2.2.2.1 1 := fun i i0 i1 => by rw [b0 4 (by omega), b0 5 (by omega), b0 6 (by omega)]; exact cC i i0 i1
    refine ⟨by rw [hv', hv], hT2, PkR.mk (pkm_3 ?_) ?_ ?_, ⟨by rw [d12, b0 0 (by omega), c8], e25⟩, ⟨⟨Or.inl (by rw [b0 25 (by omega)]; exact c0), by rw [d0, b0 25 (by omega), c0], fun z => ?_⟩, ⟨Or.inl (by rw [b0 25 (by omega)]; exact c1), by rw [d1, b0 25 (by omega), c1], fun z => ?_⟩⟩, hS2⟩
    · rw [z0, z1, z2, z3, z4]
      refine ⟨q0, q1, q2, q3, q4, q5, q6, q7, q8, q9, fun i i0 i1 => ?_⟩
      obtain ⟨t1, t2, t3⟩ := gC i i0 i1
      have := hc i i0 i1
      have := Int.emod_nonneg i (show S.2.2.2.1 1 ≠ 0 by omega)
      have := Int.emod_lt_of_pos i (show 0 < S.2.2.2.1 1 by omega)
      rw [t1, t2, t3]
      omega
    · rw [z0, z1, z2, z3, z4]
      exact ⟨dI 0 (by omega) (by omega), dI 1 (by omega) (by omega), dI 2 (by omega) (by omega), dI 3 (by omega) (by omega), dI 4 (by omega) (by omega)⟩
    · rw [z0]
      intro i i0 i1
      obtain ⟨t1, t2, t3⟩ := gC i i0 i1
      obtain ⟨w1, w2, w3⟩ := dC i i0 i1
      rw [t1, t2, t3, w1, w2, w3]
      exact ⟨rfl, rfl, rfl⟩
    · rw [b0 25 (by omega), c0] at z; exact absurd z (by decide)
    · rw [b0 25 (by omega), c1] at z; exact absurd z (by decide)
theorem CpP.R {d q : Nat} {M M' : Mem} {f : Int → Int} (h : CpP d q M M') (r : PkR q M f) : PkR d M' f := by
  obtain ⟨hI, a0, a1, a2, a3, a4, hc⟩ := r
  have n1 := hI.2.1
  refine ⟨h.I hI, by rw [h.2.1 4 (by omega) (by omega)]; exact a0, by rw [h.2.1 5 (by omega) (by omega)]; exact a1, by rw [h.2.1 6 (by omega) (by omega)]; exact a2, by rw [h.2.1 7 (by omega) (by omega)]; exact a3, by rw [h.2.1 8 (by omega) (by omega)]; exact a4, fun i i0 i1 => ?_⟩
  obtain ⟨e1, e2, e3⟩ := h.2.2 i i0 (by omega)
  rw [e1, e2, e3]
  exact hc i i0 i1
theorem IM.of2 {q : Int} {p : Nat} {M Z : Mem} (h : IM q p M) (e25 : Z 25 q = M 25 q) (e83 : Z 83 q = M 83 q) (e82 : ∀ z, 0 ≤ z → z < 53 → Z 82 (53 * q + z) = M 82 (53 * q + z)) (e0 : Z p = M p) (e1 : Z (p + 1) = M (p + 1)) (e2 : Z (p + 2) = M (p + 2)) (e3 : Z (p + 3) = M (p + 3)) : IM q p Z := by
  unfold IM
  rw [e25, e83]
  exact ⟨h.1, h.2.1, fun z => (h.2.2 z).of e0 e1 e2 e3 e82⟩
theorem ShR.of2 {q : Int} {c : Nat} {M Z : Mem} (h : ShR q c M) (e0 : Z c = M c) (e1 : Z (c + 1) = M (c + 1)) (e95 : Z 95 q = M 95 q) (e96 : Z 96 q = M 96 q) (e97 : ∀ j, 0 ≤ j → j < 40 → Z 97 (40 * q + j) = M 97 (40 * q + j)) : ShR q c Z := by
  obtain ⟨h1, h2, h3, h4, h5, h6, h7⟩ := h
  unfold ShR
  rw [e0, e1, e95, e96]
  exact ⟨h1, h2, h3, h4, h5, h6, fun j j0 j1 => by rw [e97 j j0 j1]; exact h7 j j0 j1⟩
theorem INV.imb {M : Mem} (h : INV M) : ∀ j, 0 ≤ j → j < 2 → M 83 j = 0 ∨ M 83 j = 1 := fun j j0 j1 => by rw [h.im.2 j j0 j1]; exact h.im.1 j j0 j1
theorem kpF_at {f g : Int → Int} {a i z : Int} (h0 : 0 ≤ z) (h1 : z < i) : kpF f g a i (a + z) = g z := by
  unfold kpF
  rw [if_pos (by omega), show a + z - a = z by omega]
theorem kpF_out {f g : Int → Int} {a i z : Int} (h : ¬ (a ≤ z ∧ z < a + i)) : kpF f g a i z = f z := if_neg h
theorem ag_keep_0 {M : Mem} (h : INV M) : Agr 82 184 [.inl 0] M := (c_keep_0 35 M (h.im.1 0 (by decide) (by decide))).imp fun v M1 ⟨hv, N, hC, e1⟩ => by
  have ec : ∀ c, c < 13 ∨ 16 < c → c ≠ 25 → M1 c = M c := fun c h1 h2 => by rw [e1, wr_n _ _ _ h2]; exact hC.1 c (by omega) (by omega) (by omega) (by omega)
  have m83 : M1 83 = M 83 := ec 83 (by decide) (by decide)
  refine (cm_keepP 39 M1 0 (by decide) (fun j j0 j1 => by rw [m83]; exact h.imb j j0 j1)).imp fun v' M2 hv' => ?_
  obtain ⟨-, hv', e2⟩ := hv'.resolve_left (fun z => z.1 ⟨by decide, by decide⟩)
  have gc : ∀ c, c < 13 ∨ 16 < c → c ≠ 25 → c ≠ 82 → c ≠ 83 → M2 c = M c := fun c h1 h2 h3 h4 => by rw [e2, sc_n _ _ h3, wr_n _ _ _ h4]; exact ec c h1 h2
  have gp : ∀ c, 13 ≤ c ∧ c ≤ 16 → M2 c = N c := fun c hc => by rw [e2, sc_n _ _ (by omega), wr_n _ _ _ (by omega), e1, wr_n _ _ _ (by omega)]
  have g25 : M2 25 0 = 1 := by rw [e2, sc_n _ _ (by decide), wr_n _ _ _ (by decide), e1, wr_s, up_s]
  have o25 : M2 25 1 = M 25 1 := by rw [e2, sc_n _ _ (by decide), wr_n _ _ _ (by decide), e1, wr_s, up_n _ _ (by decide), hC.1 25 (by decide) (by decide) (by decide) (by decide)]
  have g83 : M2 83 0 = 1 := by rw [e2, sc_n _ _ (by decide), wr_s, up_s]
  have g82 : M2 82 = kpF (M 82) (M 81) (53 * 0) 53 := by rw [e2, sc_s, ec 82 (by decide) (by decide), ec 81 (by decide) (by decide)]
  have ot : ∀ c, 18 ≤ c ∧ c ≤ 21 → M2 c = M c := fun c hc => gc c (by omega) (by omega) (by omega) (by omega)
  refine ⟨by rw [hv', hv, m83]; exact h.im.2 0 (by decide) (by decide), h.1.of (gc 1 (by decide) (by decide) (by decide) (by decide)) (gc 2 (by decide) (by decide) (by decide) (by decide)) (by rw [gc 80 (by decide) (by decide) (by decide) (by decide)]) (gc 86 (by decide) (by decide) (by decide) (by decide)), h.2.1.of (gc 3 (by decide) (by decide) (by decide) (by decide)) (gc 4 (by decide) (by decide) (by decide) (by decide)) (gc 5 (by decide) (by decide) (by decide) (by decide)) (gc 6 (by decide) (by decide) (by decide) (by decide)) (fun z _ _ => by rw [gc 81 (by decide) (by decide) (by decide) (by decide)]), by rw [gc 80 (by decide) (by decide) (by decide) (by decide), gc 0 (by decide) (by decide) (by decide) (by decide)]; exact h.2.2.1, ⟨?_, ?_⟩, h.2.2.2.2.of (fun c hc => gc c (by omega) (by omega) (by omega) (by omega))⟩
  · refine ⟨Or.inr g25, by rw [g83, g25], fun _ => ?_⟩
    exact (hC.R h.2.1).of (gp 13 (by omega)) (gp 14 (by omega)) (gp 15 (by omega)) (gp 16 (by omega)) (fun z z0 z1 => by rw [g82, kpF_at z0 z1])
  · exact h.2.2.2.1.2.of2 o25 (by rw [e2, sc_n _ _ (by decide), wr_s, up_n _ _ (by decide), m83]) (fun z z0 z1 => by rw [g82, kpF_out (by omega)]) (ot 18 (by omega)) (ot 19 (by omega)) (ot 20 (by omega)) (ot 21 (by omega))
theorem ag_keep_1 {M : Mem} (h : INV M) : Agr 82 184 [.inl 1] M := (c_keep_1 35 M (h.im.1 1 (by decide) (by decide))).imp fun v M1 ⟨hv, N, hC, e1⟩ => by
  have ec : ∀ c, c < 18 ∨ 21 < c → c ≠ 25 → M1 c = M c := fun c h1 h2 => by rw [e1, wr_n _ _ _ h2]; exact hC.1 c (by omega) (by omega) (by omega) (by omega)
  have m83 : M1 83 = M 83 := ec 83 (by decide) (by decide)
  refine (cm_keepP 39 M1 1 (by decide) (fun j j0 j1 => by rw [m83]; exact h.imb j j0 j1)).imp fun v' M2 hv' => ?_
  obtain ⟨-, hv', e2⟩ := hv'.resolve_left (fun z => z.1 ⟨by decide, by decide⟩)
  have gc : ∀ c, c < 18 ∨ 21 < c → c ≠ 25 → c ≠ 82 → c ≠ 83 → M2 c = M c := fun c h1 h2 h3 h4 => by rw [e2, sc_n _ _ h3, wr_n _ _ _ h4]; exact ec c h1 h2
  have gp : ∀ c, 18 ≤ c ∧ c ≤ 21 → M2 c = N c := fun c hc => by rw [e2, sc_n _ _ (by omega), wr_n _ _ _ (by omega), e1, wr_n _ _ _ (by omega)]
  have g25 : M2 25 1 = 1 := by rw [e2, sc_n _ _ (by decide), wr_n _ _ _ (by decide), e1, wr_s, up_s]
  have o25 : M2 25 0 = M 25 0 := by rw [e2, sc_n _ _ (by decide), wr_n _ _ _ (by decide), e1, wr_s, up_n _ _ (by decide), hC.1 25 (by decide) (by decide) (by decide) (by decide)]
  have g83 : M2 83 1 = 1 := by rw [e2, sc_n _ _ (by decide), wr_s, up_s]
  have g82 : M2 82 = kpF (M 82) (M 81) (53 * 1) 53 := by rw [e2, sc_s, ec 82 (by decide) (by decide), ec 81 (by decide) (by decide)]
  have ot : ∀ c, 13 ≤ c ∧ c ≤ 16 → M2 c = M c := fun c hc => gc c (by omega) (by omega) (by omega) (by omega)
  refine ⟨by rw [hv', hv, m83]; exact h.im.2 1 (by decide) (by decide), h.1.of (gc 1 (by decide) (by decide) (by decide) (by decide)) (gc 2 (by decide) (by decide) (by decide) (by decide)) (by rw [gc 80 (by decide) (by decide) (by decide) (by decide)]) (gc 86 (by decide) (by decide) (by decide) (by decide)), h.2.1.of (gc 3 (by decide) (by decide) (by decide) (by decide)) (gc 4 (by decide) (by decide) (by decide) (by decide)) (gc 5 (by decide) (by decide) (by decide) (by decide)) (gc 6 (by decide) (by decide) (by decide) (by decide)) (fun z _ _ => by rw [gc 81 (by decide) (by decide) (by decide) (by decide)]), by rw [gc 80 (by decide) (by decide) (by decide) (by decide), gc 0 (by decide) (by decide) (by decide) (by decide)]; exact h.2.2.1, ⟨?_, ?_⟩, h.2.2.2.2.of (fun c hc => gc c (by omega) (by omega) (by omega) (by omega))⟩
  · exact h.2.2.2.1.1.of2 o25 (by rw [e2, sc_n _ _ (by decide), wr_s, up_n _ _ (by decide), m83]) (fun z z0 z1 => by rw [g82, kpF_out (by omega)]) (ot 13 (by omega)) (ot 14 (by omega)) (ot 15 (by omega)) (ot 16 (by omega))
  · refine ⟨Or.inr g25, by rw [g83, g25], fun _ => ?_⟩
    exact (hC.R h.2.1).of (gp 18 (by omega)) (gp 19 (by omega)) (gp 20 (by omega)) (gp 21 (by omega)) (fun z z0 z1 => by rw [g82, kpF_at z0 z1])
theorem ag_keep {M : Mem} (h : INV M) {x : Int} (hx : inR x) : Agr 82 184 [.inl x] M := by
  by_cases e0 : x = 0
  · rw [e0]; exact ag_keep_0 h
  by_cases e1 : x = 1
  · rw [e1]; exact ag_keep_1 h
  refine (c_keep_x 35 M x hx (by omega)).imp fun v M1 ⟨hv, hm⟩ => ?_
  subst hm
  refine (cm_keepP 39 M1 x hx h.imb).imp fun v' M2 hv' => ?_
  obtain ⟨-, hw', e2⟩ := hv'.resolve_right (fun z => by have := z.1; omega)
  clear hv'
  subst e2
  exact ⟨by rw [hw', hv], h⟩
theorem ag_back_0 {M : Mem} (h : INV M) : Agr 83 185 [.inl 0] M := (c_back_0 35 M (h.im.1 0 (by decide) (by decide))).imp fun v M1 hv => by
  have ec : ∀ c, c < 3 ∨ 6 < c → M1 c = M c := by
    rcases hv with ⟨-, -, e⟩ | ⟨-, -, e⟩
    · intro c _; rw [e]
    · intro c hc; exact e.1 c (by omega) (by omega) (by omega) (by omega)
  have m83 : M1 83 = M 83 := ec 83 (by decide)
  refine (cm_backP 39 M1 0 (by decide) (fun j j0 j1 => by rw [m83]; exact h.imb j j0 j1)).imp fun v' M2 hv' => ?_
  replace hv' := hv'.resolve_left (fun z => z.1 ⟨by decide, by decide⟩)
  have q83 : M1 83 0 = M 25 0 := by rw [m83]; exact h.im.2 0 (by decide) (by decide)
  rw [q83] at hv'
  rcases hv with ⟨q, hv, e1⟩ | ⟨q, hv, hC⟩ <;> rcases hv' with ⟨-, q', hv', e2⟩ | ⟨-, q', hv', e2⟩
  · subst e1 e2
    exact ⟨by rw [hv', hv], h⟩
  · exfalso; omega
  · exfalso; omega
  · have hR := h.2.2.2.1.1.2.2 q
    have gc : ∀ c, c < 3 ∨ 6 < c → c ≠ 81 → M2 c = M c := fun c h1 h2 => by rw [e2, sc_n _ _ h2]; exact ec c h1
    have gp : ∀ c, 3 ≤ c ∧ c ≤ 6 → M2 c = M1 c := fun c hc => by rw [e2, sc_n _ _ (by omega)]
    refine ⟨?_, h.kp ⟨fun c hc => gc c (by omega) (by omega), by rw [gc 0 (by decide) (by decide)], by rw [gc 0 (by decide) (by decide)], by rw [gc 80 (by decide) (by decide)], by rw [gc 80 (by decide) (by decide)], by rw [gc 80 (by decide) (by decide)]⟩ ((hC.R hR).of (gp 3 (by decide)) (gp 4 (by decide)) (gp 5 (by decide)) (gp 6 (by decide)) (fun z z0 z1 => ?_))⟩
    · rw [hv', hv, ec 82 (by decide)]
      exact hR.2.1.symm
    · rw [e2, sc_s, cpF_at z0 z1, ec 82 (by decide)]
theorem ag_back_1 {M : Mem} (h : INV M) : Agr 83 185 [.inl 1] M := (c_back_1 35 M (h.im.1 1 (by decide) (by decide))).imp fun v M1 hv => by
  have ec : ∀ c, c < 3 ∨ 6 < c → M1 c = M c := by
    rcases hv with ⟨-, -, e⟩ | ⟨-, -, e⟩
    · intro c _; rw [e]
    · intro c hc; exact e.1 c (by omega) (by omega) (by omega) (by omega)
  have m83 : M1 83 = M 83 := ec 83 (by decide)
  refine (cm_backP 39 M1 1 (by decide) (fun j j0 j1 => by rw [m83]; exact h.imb j j0 j1)).imp fun v' M2 hv' => ?_
  replace hv' := hv'.resolve_left (fun z => z.1 ⟨by decide, by decide⟩)
  have q83 : M1 83 1 = M 25 1 := by rw [m83]; exact h.im.2 1 (by decide) (by decide)
  rw [q83] at hv'
  rcases hv with ⟨q, hv, e1⟩ | ⟨q, hv, hC⟩ <;> rcases hv' with ⟨-, q', hv', e2⟩ | ⟨-, q', hv', e2⟩
  · subst e1 e2
    exact ⟨by rw [hv', hv], h⟩
  · exfalso; omega
  · exfalso; omega
  · have hR := h.2.2.2.1.2.2.2 q
    have gc : ∀ c, c < 3 ∨ 6 < c → c ≠ 81 → M2 c = M c := fun c h1 h2 => by rw [e2, sc_n _ _ h2]; exact ec c h1
    have gp : ∀ c, 3 ≤ c ∧ c ≤ 6 → M2 c = M1 c := fun c hc => by rw [e2, sc_n _ _ (by omega)]
    refine ⟨?_, h.kp ⟨fun c hc => gc c (by omega) (by omega), by rw [gc 0 (by decide) (by decide)], by rw [gc 0 (by decide) (by decide)], by rw [gc 80 (by decide) (by decide)], by rw [gc 80 (by decide) (by decide)], by rw [gc 80 (by decide) (by decide)]⟩ ((hC.R hR).of (gp 3 (by decide)) (gp 4 (by decide)) (gp 5 (by decide)) (gp 6 (by decide)) (fun z z0 z1 => ?_))⟩
    · rw [hv', hv, ec 82 (by decide)]
      exact hR.2.1.symm
    · rw [e2, sc_s, cpF_at z0 z1, ec 82 (by decide)]
theorem ag_back {M : Mem} (h : INV M) {x : Int} (hx : inR x) : Agr 83 185 [.inl x] M := by
  by_cases e0 : x = 0
  · rw [e0]; exact ag_back_0 h
  by_cases e1 : x = 1
  · rw [e1]; exact ag_back_1 h
  refine (c_back_x 35 M x hx (by omega)).imp fun v M1 ⟨hv, hm⟩ => ?_
  subst hm
  refine (cm_backP 39 M1 x hx h.imb).imp fun v' M2 hv' => ?_
  obtain ⟨-, hw', e2⟩ := hv'.resolve_right (fun z => z.elim (fun z => by have := z.1; omega) (fun z => by have := z.1; omega))
  clear hv'
  subst e2
  exact ⟨by rw [hw', hv], h⟩
