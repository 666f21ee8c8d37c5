/-! more calls -/
theorem EX_sum (has home : Int → Int) {n i j : Int} (i0 : 0 ≤ i) (i1 : i < n) (j0 : 0 ≤ j) (j1 : j < n) (g : Int) : EX (fun g => sumG has home n g) home has i j g = sumG has (xcF home i j) n g := by
  have eF : (fun t => if xcF home i j t = g then has t else 0) = upI (upI (fun t => if home t = g then has t else 0) i (if home j = g then has i else 0)) j (if home i = g then has j else 0) := by
    funext t
    unfold xcF upI
    by_cases a : t = j
    · rw [if_pos a, if_pos a, a]
    · rw [if_neg a, if_neg a]
      by_cases b : t = i
      · rw [if_pos b, if_pos b, b]
      · rw [if_neg b, if_neg b]
  have e2 : sumG has (xcF home i j) n g = sumG has home n g + ((if home j = g then has i else 0) - (if home i = g then has i else 0)) + ((if home i = g then has j else 0) - upI (fun t => if home t = g then has t else 0) i (if home j = g then has i else 0) j) := by
    show sumZ (fun t => if xcF home i j t = g then has t else 0) n = _
    rw [eF, sumZ_up _ _ j0 j1, sumZ_up _ _ i0 i1]
    rfl
  rw [e2]
  clear e2 eF
  show (if g = home j then ((if home j = home i then sumG has home n (home i) + (has j - has i) else sumG has home n (home j)) + (has i - has j)) else (if g = home i then sumG has home n (home i) + (has j - has i) else sumG has home n g)) = sumG has home n g + ((if home j = g then has i else 0) - (if home i = g then has i else 0)) + ((if home i = g then has j else 0) - (if j = i then (if home j = g then has i else 0) else (if home j = g then has j else 0)))
  by_cases ij : j = i
  · subst ij
    by_cases a : home j = g
    · subst a
      rw [if_pos rfl, if_pos rfl, if_pos rfl, if_pos rfl]
    · rw [if_neg (fun z => a z.symm), if_neg (fun z => a z.symm), if_neg a, if_pos rfl]; omega
  · rw [if_neg ij]
    by_cases a : home i = g
    · by_cases b : home j = g
      · subst a
        rw [if_pos b.symm, if_pos b, if_pos b, if_pos rfl, if_pos rfl, if_pos b]; omega
      · subst a
        rw [if_neg (fun z => b z.symm), if_pos rfl, if_neg b, if_pos rfl, if_pos rfl, if_neg b]; omega
    · by_cases b : home j = g
      · subst b
        rw [if_pos rfl, if_neg (fun z => a z.symm), if_pos rfl, if_neg a, if_neg a, if_pos rfl]; omega
      · rw [if_neg (fun z => b z.symm), if_neg (fun z => a z.symm), if_neg b, if_neg a, if_neg a, if_neg b]; omega
theorem ag_better {M : Mem} (h : INV M) : Agr 72 169 [] M := (c_better 36 M h.pk).imp fun v M1 ⟨hv, e1⟩ => by
  obtain ⟨⟨a0, a1, a2, a3, a4⟩, c1, c2, c3⟩ := h.2.1.eqs
  obtain ⟨n0, n1, k0, k1, f0, f1, r0, r1, s0, s1, hP⟩ := pkd_3 h.pk
  have e : M1 81 = M 81 := e1 81 (by decide)
  refine (cm_better 37 M1 (h.md.of e)).imp fun v' M2 ⟨hv', e2⟩ => ⟨?_, h.scr (fun c hc => e1 c (by omega)) ⟨fun c hc => e2 c (by omega), by rw [e2 80 (by decide)], by rw [e2 80 (by decide)], by rw [e2 80 (by decide)]⟩⟩
  have eS : mS M1 21 = SG 3 M := by
    funext g
    show sumG (fun i => M1 81 (21 + i)) (fun i => M1 81 (37 + i)) (M1 81 0) g = sumG (M 5) (M 6) (M 3 4) g
    rw [e, a0]
    exact sumG_cg g c2 c3
  rw [hv', hv, eS, mHe e, mGe e, e, a0, a1]
  congr 1
  refine btR_cg (fun i j i0 i1 j0 j1 => ?_) _ _ (by omega)
  refine lsZ_cg (by omega) (fun g _ _ => ?_)
  rw [show SG 3 M = fun g => sumG (M 5) (M 6) (M 3 4) g from rfl, EX_sum _ _ i0 i1 j0 j1]
  exact sumG_cg g c2 (xcF_cg c3 i0 i1 j0 j1)
/-- a cell comes, on both sides -/
theorem cmF_go {M Y : Mem} (h : INV M) {v : Int} (v0 : 1 ≤ v) (v1 : v ≤ 999) (n2 : M 3 4 < 16) {g : Int} (g0 : 0 ≤ g) (g1 : g < M 3 5) (b3 : Y 3 = upI (M 3) 4 (M 3 4 + 1)) (b4 : Y 4 = upI (M 4) (M 3 4) v) (b5 : Y 5 = upI (M 5) (M 3 4) v) (b6 : Y 6 = upI (M 6) (M 3 4) g) (b81 : Y 81 = cmF (M 81) v g) (bc : ∀ c, c < 3 ∨ 7 < c → c ≠ 81 → c ≠ 88 → Y c = M c) : INV Y := by
  obtain ⟨⟨a0, a1, a2, a3, a4⟩, c1, c2, c3⟩ := h.2.1.eqs
  have hA := h.2.1.all
  obtain ⟨n0, n1, k0, k1, f0, f1, r0, r1, s0, s1, hP⟩ := pkd_3 h.pk
  refine h.go (fun c hc => bc c (by omega) (by omega) (by omega)) (fun j _ => by rw [bc 80 (by decide) (by decide) (by decide)]) (pkm_3 ?_) ?_ ?_
  · rw [b3, b4, b5, b6, up_s, up_n _ _ (by decide), up_n _ _ (by decide), up_n _ _ (by decide), up_n _ _ (by decide)]
    refine ⟨by omega, by omega, k0, k1, f0, f1, r0, r1, s0, s1, fun i i0 i1 => ?_⟩
    by_cases z : i = M 3 4
    · rw [z, up_s, up_s, up_s]; omega
    · have := hP i i0 (by omega)
      rw [up_n _ _ z, up_n _ _ z, up_n _ _ z]; omega
  · rw [b3, b81, cmF_0, cmF_r (by omega) (by omega) (by omega), cmF_r (by omega) (by omega) (by omega), cmF_r (by omega) (by omega) (by omega), cmF_r (by omega) (by omega) (by omega), up_s, up_n _ _ (by decide), up_n _ _ (by decide), up_n _ _ (by decide), up_n _ _ (by decide), a0]
    exact ⟨rfl, a1, a2, a3, a4⟩
  · rw [b3, b4, b5, b6, b81, up_s]
    intro i i0 i1
    obtain ⟨d1, d2, d3⟩ := cmF_c (f := M 81) (v := v) (g := g) (by omega) (by omega) i i0 (by omega)
    rw [d1, d2, d3, a0]
    by_cases z : i = M 3 4
    · rw [z, up_s, up_s, up_s, up_s, up_s, up_s]; exact ⟨rfl, rfl, rfl⟩
    · rw [up_n _ _ z, up_n _ _ z, up_n _ _ z, up_n _ _ z, up_n _ _ z, up_n _ _ z]
      exact hA i i0 (by omega)
theorem mS_eq {M Z : Mem} (h : INV M) (e : Z 81 = M 81) : mS Z 21 = fun g => sumG (M 5) (M 6) (M 3 4) g := by
  obtain ⟨⟨a0, a1, a2, a3, a4⟩, c1, c2, c3⟩ := h.2.1.eqs
  funext g
  show sumG (fun i => Z 81 (21 + i)) (fun i => Z 81 (37 + i)) (Z 81 0) g = sumG (M 5) (M 6) (M 3 4) g
  rw [e, a0]
  exact sumG_cg g c2 c3
theorem ag_add {M : Mem} (h : INV M) {x : Int} (hx : inR x) : Agr 73 171 [.inl x] M := (c_add 37 M h.pk x hx).imp fun v M1 hv => by
  obtain ⟨⟨a0, a1, a2, a3, a4⟩, c1, c2, c3⟩ := h.2.1.eqs
  obtain ⟨n0, n1, k0, k1, f0, f1, r0, r1, s0, s1, hP⟩ := pkd_3 h.pk
  have e : M1 81 = M 81 := by
    rcases hv with ⟨-, -, e⟩ | ⟨-, -, -, e⟩ | ⟨-, -, -, N, e, e'⟩
    · rw [e]
    · rw [e]
    · rw [e'.1 81 (by decide) (by decide) (by decide) (by decide)]; exact e.1 81 (by decide)
  refine (cm_add 37 M1 (h.md.of e) x hx).imp fun v' M2 hv' => ?_
  rw [e, a0] at hv'
  rcases hv with ⟨q, hv, e1⟩ | ⟨q, p, hv, e1⟩ | ⟨q, p, hv, N, e1, e1'⟩ <;> rcases hv' with ⟨q', hv', e2⟩ | ⟨q', p', hv', e2⟩ | ⟨q', p', hv', e2⟩
  · subst e1 e2
    exact ⟨by rw [hv', hv], h⟩
  · exfalso; omega
  · exfalso; omega
  · exfalso; omega
  · subst e1 e2
    exact ⟨by rw [hv', hv], h⟩
  · exfalso; omega
  · exfalso; omega
  · exfalso; omega
  · obtain ⟨u0, u1⟩ := e1
    obtain ⟨w0, w1, w2, w3, w4⟩ := e1'
    have w1 : M1 3 = upI (N 3) 4 (N 3 4 + 1) := w1
    have w2 : M1 4 = upI (N 4) (N 3 4) x := w2
    have w3 : M1 5 = upI (N 5) (N 3 4) x := w3
    have w4 : M1 6 = upI (N 6) (N 3 4) (flZ (SG 3 M) (M 3 5)) := w4
    rw [u0 3 (by decide)] at w1 w2 w3 w4
    rw [u0 4 (by decide)] at w2
    rw [u0 5 (by decide)] at w3
    rw [u0 6 (by decide)] at w4
    have gb := flZ_b (SG 3 M) (k := M 3 5) (by omega)
    have t81 : M2 81 = cmF (M 81) x (flZ (SG 3 M) (M 3 5)) := by rw [e2.2, mS_eq h e, e, a1]; rfl
    refine ⟨by rw [hv', hv], cmF_go h q.1 q.2 p gb.1 gb.2 ((e2.1 3 (by decide) (by decide)).trans w1) ((e2.1 4 (by decide) (by decide)).trans w2) ((e2.1 5 (by decide) (by decide)).trans w3) ((e2.1 6 (by decide) (by decide)).trans w4) t81 (fun c h1 h2 h3 => ?_)⟩
    rw [e2.1 c h2 h3, w0 c (by omega) (by omega) (by omega) (by omega), u0 c (by omega)]
theorem ag_drop {M : Mem} (h : INV M) {x : Int} (hx : inR x) : Agr 74 172 [.inl x] M := (c_drop 38 M h.pk x hx).imp fun v M1 hv => by
  obtain ⟨⟨a0, a1, a2, a3, a4⟩, c1, c2, c3⟩ := h.2.1.eqs
  have hA := h.2.1.all
  obtain ⟨n0, n1, k0, k1, f0, f1, r0, r1, s0, s1, hP⟩ := pkd_3 h.pk
  have e : M1 81 = M 81 := by
    rcases hv with ⟨-, -, e⟩ | ⟨-, -, e⟩
    · rw [e]
    · exact e.1 81 (by decide) (by decide) (by decide) (by decide)
  refine (cm_drop 38 M1 (h.md.of e) x hx).imp fun v' M2 hv' => ?_
  rw [e, a0] at hv'
  rcases hv with ⟨q, hv, e1⟩ | ⟨q, hv, d0, d3, d4, d5, d6⟩ <;> rcases hv' with ⟨q', hv', e2⟩ | ⟨q', hv', e2⟩
  · subst e1 e2
    exact ⟨by rw [hv', hv], h⟩
  · exact absurd q' q
  · exact absurd q q'
  · have g3 : M2 3 = upI (M 3) 4 (M 3 4 - 1) := by rw [e2, sc_n _ _ (by decide)]; exact d3
    have g4 : M2 4 = shF (M 4) x (M 3 4) := by rw [e2, sc_n _ _ (by decide)]; exact d4
    have g5 : M2 5 = shF (M 5) x (M 3 4) := by rw [e2, sc_n _ _ (by decide)]; exact d5
    have g6 : M2 6 = shF (M 6) x (M 3 4) := by rw [e2, sc_n _ _ (by decide)]; exact d6
    have g81 : M2 81 = upI (drF (M 81) x (M 3 4 - 1)) 0 (M 3 4 - 1) := by rw [e2, sc_s]
    have gc : ∀ c, c ≠ 3 → c ≠ 4 → c ≠ 5 → c ≠ 6 → c ≠ 81 → M2 c = M c := fun c h1 h2 h3 h4 h5 => by rw [e2, sc_n _ _ h5]; exact d0 c h1 h2 h3 h4
    refine ⟨by rw [hv', hv], h.go (fun c hc => gc c (by omega) (by omega) (by omega) (by omega) (by omega)) (fun j _ => by rw [gc 80 (by decide) (by decide) (by decide) (by decide) (by decide)]) (pkm_3 ?_) ?_ ?_⟩
    · rw [g3, g4, g5, g6, up_s, up_n _ _ (by decide), up_n _ _ (by decide), up_n _ _ (by decide), up_n _ _ (by decide)]
      refine ⟨by omega, by omega, k0, k1, f0, f1, r0, r1, s0, s1, fun i i0 i1 => ?_⟩
      have p1 := hP i i0 (by omega)
      have p2 := hP (i + 1) (by omega) (by omega)
      unfold shF
      by_cases z : x ≤ i ∧ i < M 3 4 - 1
      · rw [if_pos z, if_pos z, if_pos z]; exact p2
      · rw [if_neg z, if_neg z, if_neg z]; exact p1
    · rw [g3, g81, up_s, up_s, up_n _ _ (by decide), up_n _ _ (by decide), up_n _ _ (by decide), up_n _ _ (by decide), up_n _ _ (by decide), up_n _ _ (by decide), up_n _ _ (by decide), up_n _ _ (by decide), drF_o q.1 (by omega), drF_o q.1 (by omega), drF_o q.1 (by omega), drF_o q.1 (by omega)]
      exact ⟨rfl, a1, a2, a3, a4⟩
    · rw [g3, g4, g5, g6, g81, up_s]
      intro i i0 i1
      have p1 := hA i i0 (by omega)
      have p2 := hA (i + 1) (by omega) (by omega)
      rw [up_n _ _ (by omega), up_n _ _ (by omega), up_n _ _ (by omega)]
      unfold shF drF
      by_cases z : x ≤ i
      · rw [if_pos (by omega), if_pos (by omega), if_pos (by omega), if_pos (by omega), if_pos (by omega), if_pos (by omega), show 5 + i + 1 = 5 + (i + 1) by omega, show 21 + i + 1 = 21 + (i + 1) by omega, show 37 + i + 1 = 37 + (i + 1) by omega]
        exact p2
      · rw [if_neg (by omega), if_neg (by omega), if_neg (by omega), if_neg (by omega), if_neg (by omega), if_neg (by omega)]
        exact p1
/-- many come -/
theorem dM_go {M M1 : Mem} (h : INV M) (e : ∀ c, 7 < c → M1 c = M c) (seed : Int) : ∀ (m : Nat) (N : Mem), M 3 4 + m ≤ 16 → dM seed M1 m N → (∀ c, c ≠ 81 → c ≠ 88 → N c = M1 c) ∧ N 81 0 = M 3 4 + m ∧ (∀ j, 1 ≤ j → j < 5 → N 81 j = M 81 j) ∧ ∀ i, 0 ≤ i → i < M 3 4 + m → N 81 (5 + i) = (dA seed (M 3 5) (M 3 4) (M 4, M 5, M 6) m).1 i ∧ N 81 (21 + i) = (dA seed (M 3 5) (M 3 4) (M 4, M 5, M 6) m).2.1 i ∧ N 81 (37 + i) = (dA seed (M 3 5) (M 3 4) (M 4, M 5, M 6) m).2.2 i
  | 0, N, hm, hd => by
    have hd : ∀ c, c ≠ 88 → N c = M1 c := hd
    obtain ⟨⟨a0, a1, a2, a3, a4⟩, -⟩ := h.2.1.eqs
    have e81 : N 81 = M 81 := (hd 81 (by decide)).trans (e 81 (by decide))
    refine ⟨fun c _ h2 => hd c h2, by rw [e81, a0]; omega, fun j _ _ => by rw [e81], fun i i0 i1 => ?_⟩
    rw [e81]
    exact h.2.1.all i i0 (by omega)
  | m + 1, N, hm, hd => by
    obtain ⟨N1, hd1, hI1, n16, hC⟩ := hd
    obtain ⟨b1, b2, b3, b4⟩ := dM_go h e seed m N1 (by omega) hd1
    obtain ⟨⟨a0, a1, a2, a3, a4⟩, -⟩ := h.2.1.eqs
    have k0 := h.pk.2.2.1
    have n0 := h.pk.1
    have eg : flZ (mS N1 21) (N1 81 1) = flZ (fun g => sumG (dA seed (M 3 5) (M 3 4) (M 4, M 5, M 6) m).2.1 (dA seed (M 3 5) (M 3 4) (M 4, M 5, M 6) m).2.2 (M 3 4 + m) g) (M 3 5) := by
      rw [b3 1 (by omega) (by omega), a1]
      refine flZ_cg (by omega) (fun g _ _ => ?_)
      show sumG (fun i => N1 81 (21 + i)) (fun i => N1 81 (37 + i)) (N1 81 0) g = _
      rw [b2]
      exact sumG_cg g (fun i i0 i1 => (b4 i i0 i1).2.1) (fun i i0 i1 => (b4 i i0 i1).2.2)
    have e81 : N 81 = cmF (N1 81) (drV seed m) (flZ (mS N1 21) (N1 81 1)) := hC.2
    refine ⟨fun c h1 h2 => (hC.1 c h1 h2).trans (b1 c h1 h2), ?_, fun j j0 j1 => ?_, fun i i0 i1 => ?_⟩
    · rw [e81, cmF_0, b2]; omega
    · rw [e81, cmF_r (by omega) (by omega) (by omega)]; exact b3 j j0 j1
    · obtain ⟨d1, d2, d3⟩ := cmF_c (f := N1 81) (v := drV seed m) (g := flZ (mS N1 21) (N1 81 1)) (by omega) (by omega) i i0 (by omega)
      rw [e81, d1, d2, d3, b2, eg, dA]
      by_cases z : i = M 3 4 + m
      · rw [z, up_s, up_s, up_s]
        exact ⟨(up_s _ _ _).symm, (up_s _ _ _).symm, (up_s _ _ _).symm⟩
      · obtain ⟨u1, u2, u3⟩ := b4 i i0 (by omega)
        rw [up_n _ _ z, up_n _ _ z, up_n _ _ z]
        exact ⟨u1.trans (up_n _ _ z).symm, u2.trans (up_n _ _ z).symm, u3.trans (up_n _ _ z).symm⟩
theorem ag_draw {M : Mem} (h : INV M) {seed x : Int} (hx : inR x) : Agr 81 181 [.inl seed, .inl x] M := (c_draw 36 M h.pk seed x hx).imp fun v M1 hv => by
  obtain ⟨⟨a0, a1, a2, a3, a4⟩, c1, c2, c3⟩ := h.2.1.eqs
  obtain ⟨n0, n1, k0, k1, f0, f1, r0, r1, s0, s1, hP⟩ := pkd_3 h.pk
  have ec : ∀ c, 7 < c → M1 c = M c := by
    rcases hv with ⟨-, -, e⟩ | ⟨-, -, -, e⟩
    · intro c _; rw [e]
    · intro c hc; exact e.1 c (by omega)
  have e : M1 81 = M 81 := ec 81 (by decide)
  refine (cm_draw 37 M1 (h.md.of e) seed x hx).imp fun v' M2 hv' => ?_
  rw [e, a0] at hv'
  rcases hv with ⟨q, hv, e1⟩ | ⟨q, hv, hI, d0, d1, d2, d4, d5, d6⟩ <;> rcases hv' with ⟨q', hv', e2⟩ | ⟨q', hv', hI2, hd⟩
  · subst e1 e2
    exact ⟨by rw [hv', hv], h⟩
  · exact absurd q' q
  · exact absurd q q'
  · have vb : 0 ≤ v ∧ v ≤ 16 - M 3 4 := by
      rw [hv]
      split <;> omega
    have ev : v' = v := by rw [hv', hv]
    rw [ev] at hd
    obtain ⟨b1, b2, b3, b4⟩ := dM_go h ec seed v.toNat M2 (by omega) hd
    have g3 : M2 3 = M1 3 := b1 3 (by decide) (by decide)
    have g4 : M2 4 = M1 4 := b1 4 (by decide) (by decide)
    have g5 : M2 5 = M1 5 := b1 5 (by decide) (by decide)
    have g6 : M2 6 = M1 6 := b1 6 (by decide) (by decide)
    refine ⟨ev, h.go (fun c hc => ?_) (fun j _ => ?_) (pkm_3 ?_) ?_ ?_⟩
    · rw [b1 c (by omega) (by omega)]; exact d0 c (by omega)
    · rw [b1 80 (by decide) (by decide), d0 80 (by decide)]
    · rw [g3, g4, g5, g6]; exact pkd_3 hI
    · rw [g3, b2, b3 1 (by omega) (by omega), b3 2 (by omega) (by omega), b3 3 (by omega) (by omega), b3 4 (by omega) (by omega), d1, d2 5 (by decide), d2 6 (by decide), d2 7 (by decide), d2 8 (by decide)]
      exact ⟨rfl, a1, a2, a3, a4⟩
    · rw [g3, g4, g5, g6, d1, d4, d5, d6]
      exact b4
