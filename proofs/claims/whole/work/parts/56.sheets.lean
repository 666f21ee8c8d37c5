/-! sheets side by side -/
theorem INV.shg {M Y : Mem} (h : INV M) (e : ∀ c, c < 72 ∨ (80 ≤ c ∧ c < 95) → Y c = M c) (s : ShA Y) : INV Y := by
  obtain ⟨hT, hP, hF, hM, hS⟩ := h
  exact ⟨hT.of (e 1 (by omega)) (e 2 (by omega)) (by rw [e 80 (by omega)]) (e 86 (by omega)), hP.of (e 3 (by omega)) (e 4 (by omega)) (e 5 (by omega)) (e 6 (by omega)) (fun z _ _ => by rw [e 81 (by omega)]), by rw [e 80 (by omega), e 0 (by omega)]; exact hF, ⟨hM.1.of (e 25 (by omega)) (e 83 (by omega)) (e 82 (by omega)) (e 13 (by omega)) (e 14 (by omega)) (e 15 (by omega)) (e 16 (by omega)), hM.2.of (e 25 (by omega)) (e 83 (by omega)) (e 82 (by omega)) (e 18 (by omega)) (e 19 (by omega)) (e 20 (by omega)) (e 21 (by omega))⟩, s⟩
theorem laV_r {l v : Int} (hv : inR v) : inR (laV l v) := by
  unfold laV
  obtain ⟨v0, v1⟩ := hv
  have b1 := Int.bmod_lt (x := v) (m := 256) (by decide)
  have b2 := Int.le_bmod (x := v) (m := 256) (by decide)
  have b3 := Int.bmod_lt (x := v) (m := 65536) (by decide)
  have b4 := Int.le_bmod (x := v) (m := 65536) (by decide)
  repeat' split
  all_goals (constructor <;> omega)
theorem ShR.lane {q : Int} {c : Nat} {M : Mem} (h : ShR q c M) : (M c 1 = -1 ∧ M 95 q = -4) ∨ (M c 1 ≠ -1 ∧ M 95 q = M c 1) := by
  obtain ⟨h1, h2, h3, h4, h5, h6, h7⟩ := h
  by_cases e : M c 1 = -1
  · rw [if_pos e] at h5; exact Or.inl ⟨e, h5⟩
  · rw [if_neg e] at h5; exact Or.inr ⟨e, h5⟩
theorem rdF_cg {row row' h h' : Int → Int} {f n : Int} (hh : ∀ i, 0 ≤ i → i < n → h i = h' i) : ∀ m : Nat, (∀ j : Int, 0 ≤ j → j < m → row (f + 2 * j) = row' (f + 2 * j) ∧ row (f + 2 * j + 1) = row' (f + 2 * j + 1)) → ∀ y, 0 ≤ y → y < n → rdF row f h m y = rdF row' f h' m y
  | 0, _, y, y0, y1 => hh y y0 y1
  | m + 1, hr, y, y0, y1 => by
    have ih := rdF_cg (f := f) hh m (fun j j0 j1 => hr j j0 (by omega)) y y0 y1
    obtain ⟨r1, r2⟩ := hr m (by omega) (by omega)
    unfold rdF
    rw [r1, r2]
    unfold upI
    rw [ih]
theorem rdF_b {row h : Int → Int} {f n k : Int} (hh : ∀ i, 0 ≤ i → i < n → 0 ≤ h i ∧ h i < k) : ∀ m : Nat, (∀ j : Int, 0 ≤ j → j < m → rdO row f n k j) → ∀ y, 0 ≤ y → y < n → 0 ≤ rdF row f h m y ∧ rdF row f h m y < k
  | 0, _, y, y0, y1 => hh y y0 y1
  | m + 1, hr, y, y0, y1 => by
    have ih := rdF_b hh m (fun j j0 j1 => hr j j0 (by omega)) y y0 y1
    have r1 := (hr m (by omega) (by omega)).2
    unfold rdF upI
    split
    · exact r1
    · exact ih
theorem ag_sheet_0 {M : Mem} (h : INV M) {l n : Int} (h0 : 0 ≤ l) (h1 : l < 3) (h2 : n ≤ 40) (h3 : 0 ≤ n) : Agr 84 187 [.inl 0, .inl l, .inl n] M := (c_sheet_0 38 M l n h0 h1 h2 h3).imp fun v M1 ⟨hv, e1⟩ => by
  refine (cm_sheet 38 M1 0 l n (by decide) (by constructor <;> omega) (by constructor <;> omega)).imp fun v' M2 hv' => ?_
  obtain ⟨-, hw, e2⟩ := hv'.resolve_left (fun z => z.1 ⟨⟨by decide, by decide⟩, ⟨h0, h1⟩, h2, h3⟩)
  clear hv'
  have gc : ∀ c, c ≠ 72 → c ≠ 73 → c ≠ 95 → c ≠ 96 → c ≠ 97 → M2 c = M c := fun c k1 k2 k3 k4 k5 => by rw [e2, sc_n _ _ k5, wr_n _ _ _ k4, wr_n _ _ _ k3, e1, sc_n _ _ k2, wr_n _ _ _ k1, wr_n _ _ _ k1]
  have g95 : M2 95 = upI (M 95) 0 l := by rw [e2, sc_n _ _ (by decide), wr_n _ _ _ (by decide), wr_s, e1, sc_n _ _ (by decide), wr_n _ _ _ (by decide), wr_n _ _ _ (by decide)]
  have g96 : M2 96 = upI (M 96) 0 n := by rw [e2, sc_n _ _ (by decide), wr_s, wr_n _ _ _ (by decide), e1, sc_n _ _ (by decide), wr_n _ _ _ (by decide), wr_n _ _ _ (by decide)]
  have g97 : M2 97 = shZ (M 97) (40 * 0) 40 := by rw [e2, sc_s, e1, sc_n _ _ (by decide), wr_n _ _ _ (by decide), wr_n _ _ _ (by decide)]
  have ga : M2 72 1 = l := by rw [e2, sc_n _ _ (by decide), wr_n _ _ _ (by decide), wr_n _ _ _ (by decide), e1, sc_n _ _ (by decide), wr_s, up_n _ _ (by decide), wr_s, up_s]
  have gb : M2 72 2 = n := by rw [e2, sc_n _ _ (by decide), wr_n _ _ _ (by decide), wr_n _ _ _ (by decide), e1, sc_n _ _ (by decide), wr_s, up_s]
  have gr : M2 73 = filF (M 73) 0 40 := by rw [e2, sc_n _ _ (by decide), wr_n _ _ _ (by decide), wr_n _ _ _ (by decide), e1, sc_s]
  refine ⟨by rw [hw, hv], h.shg (fun c hc => gc c (by omega) (by omega) (by omega) (by omega) (by omega)) ⟨?_, h.2.2.2.2.2.1.of2 (gc 74 (by decide) (by decide) (by decide) (by decide) (by decide)) (gc 75 (by decide) (by decide) (by decide) (by decide) (by decide)) (by rw [g95, up_n _ _ (by decide)]) (by rw [g96, up_n _ _ (by decide)]) (fun j j0 j1 => by rw [g97]; exact if_neg (by omega)), h.2.2.2.2.2.2.1.of2 (gc 76 (by decide) (by decide) (by decide) (by decide) (by decide)) (gc 77 (by decide) (by decide) (by decide) (by decide) (by decide)) (by rw [g95, up_n _ _ (by decide)]) (by rw [g96, up_n _ _ (by decide)]) (fun j j0 j1 => by rw [g97]; exact if_neg (by omega)), h.2.2.2.2.2.2.2.of2 (gc 78 (by decide) (by decide) (by decide) (by decide) (by decide)) (gc 79 (by decide) (by decide) (by decide) (by decide) (by decide)) (by rw [g95, up_n _ _ (by decide)]) (by rw [g96, up_n _ _ (by decide)]) (fun j j0 j1 => by rw [g97]; exact if_neg (by omega))⟩⟩
  refine ⟨by rw [ga]; omega, by rw [ga]; omega, by rw [gb]; omega, by rw [gb]; omega, by rw [g95, up_s, ga, if_neg (by omega)], by rw [g96, up_s, gb], fun j j0 j1 => ?_⟩
  rw [g97, show M2 (72 + 1) = _ from gr]
  unfold shZ filF
  rw [if_pos (by omega), if_pos (by omega)]
  exact ⟨rfl, by decide⟩
theorem ag_lay_0 {M : Mem} (h : INV M) {i v : Int} (hi : inR i) (hv0 : inR v) : Agr 85 188 [.inl 0, .inl i, .inl v] M := by
  obtain ⟨l0, l1, z0, z1, l5, l6, l7⟩ := id h.2.2.2.2.1
  have ln := h.2.2.2.2.1.lane
  refine (c_lay_0 38 M l0 l1 z0 z1 i v hi).imp fun w M1 hw => ?_
  have ec : ∀ c, c ≠ 73 → M1 c = M c := by
    rcases hw with ⟨-, -, e⟩ | ⟨-, -, -, e⟩ | ⟨-, -, -, e⟩
    · intro c _; rw [e]
    · intro c _; rw [e]
    · intro c hc; rw [e, wr_n _ _ _ hc]
  refine (cm_lay 38 M1 (fun j j0 j1 => by rw [ec 95 (by decide), ec 96 (by decide)]; exact h.sl j j0 j1) 0 i v (by decide) hi).imp fun w' M2 hw' => ?_
  rw [ec 95 (by decide), ec 96 (by decide), l6] at hw'
  replace hw' := hw'.resolve_left (fun z => z.1 ⟨by decide, by decide⟩)
  rcases hw with ⟨q, hv, e1⟩ | ⟨q, p, hv, e1⟩ | ⟨q, p, hv, e1⟩ <;> rcases hw' with ⟨-, q', hv', e2⟩ | ⟨-, q', p', hv', e2⟩ | ⟨-, q', p', hv', e2⟩
  · subst e1 e2
    exact ⟨by rw [hv', hv], h⟩
  · exfalso; omega
  · exfalso; omega
  · exfalso; omega
  · subst e1 e2
    exact ⟨by rw [hv', hv], h⟩
  · exfalso; omega
  · exfalso; omega
  · exfalso; omega
  · have e9 : M 95 0 = M 72 1 := by omega
    rw [e9] at e2
    have gc : ∀ c, c ≠ 73 → c ≠ 97 → M2 c = M c := fun c k1 k2 => by rw [e2, wr_n _ _ _ k2]; exact ec c k1
    have g97 : M2 97 = upI (M 97) (40 * 0 + i) (laV (M 72 1) v) := by rw [e2, wr_s, ec 97 (by decide)]
    have gr : M2 73 = upI (M 73) i (laV (M 72 1) v) := by rw [e2, wr_n _ _ _ (by decide), e1, wr_s]
    refine ⟨by rw [hv', hv], h.shg (fun c hc => gc c (by omega) (by omega)) ⟨?_, h.2.2.2.2.2.1.of2 (gc 74 (by decide) (by decide)) (gc 75 (by decide) (by decide)) (by rw [gc 95 (by decide) (by decide)]) (by rw [gc 96 (by decide) (by decide)]) (fun j j0 j1 => by rw [g97]; exact up_n _ _ (by omega)), h.2.2.2.2.2.2.1.of2 (gc 76 (by decide) (by decide)) (gc 77 (by decide) (by decide)) (by rw [gc 95 (by decide) (by decide)]) (by rw [gc 96 (by decide) (by decide)]) (fun j j0 j1 => by rw [g97]; exact up_n _ _ (by omega)), h.2.2.2.2.2.2.2.of2 (gc 78 (by decide) (by decide)) (gc 79 (by decide) (by decide)) (by rw [gc 95 (by decide) (by decide)]) (by rw [gc 96 (by decide) (by decide)]) (fun j j0 j1 => by rw [g97]; exact up_n _ _ (by omega))⟩⟩
    refine ⟨by rw [gc 72 (by decide) (by decide)]; exact l0, by rw [gc 72 (by decide) (by decide)]; exact l1, by rw [gc 72 (by decide) (by decide)]; exact z0, by rw [gc 72 (by decide) (by decide)]; exact z1, by rw [gc 72 (by decide) (by decide), gc 95 (by decide) (by decide)]; exact l5, by rw [gc 72 (by decide) (by decide), gc 96 (by decide) (by decide)]; exact l6, fun j j0 j1 => ?_⟩
    rw [g97, show M2 (72 + 1) = _ from gr]
    by_cases z : j = i
    · rw [z, up_s, up_s]; exact ⟨rfl, laV_r hv0⟩
    · rw [up_n _ _ z, up_n _ _ (by omega)]; exact l7 j j0 j1
theorem ag_read_0 {M : Mem} (h : INV M) {l f n : Int} (h0 : 0 ≤ l) (h1 : l < 3) (hf : inR f) (h2 : 0 ≤ n) (h3 : n ≤ 20) : Agr 86 189 [.inl 0, .inl l, .inl f, .inl n] M := by
  obtain ⟨l0, l1, z0, z1, l5, l6, l7⟩ := id h.2.2.2.2.1
  have lnn := h.2.2.2.2.1.n
  obtain ⟨⟨a0, a1, a2, a3, a4⟩, c1, c2, c3⟩ := h.2.1.eqs
  have hA := h.2.1.all
  obtain ⟨n0, n1, k0, k1, f0, f1, r0, r1, s0, s1, hP⟩ := pkd_3 h.pk
  refine (c_read_0 35 M h.pk l0 l1 z0 z1 (fun j j0 j1 => (l7 j j0 j1).2) l f n h0 h1 hf h2 h3).imp fun v M1 hv => ?_
  have ec : ∀ c, c ≠ 0 → c ≠ 6 → M1 c = M c := by
    rcases hv with ⟨i, -, -, -, -, -, e⟩ | ⟨-, -, e⟩
    · intro c _ _; rw [e]
    · intro c k1 k2; rw [e, wr_n _ _ _ k1, sc_n _ _ k2]
  have e : M1 81 = M 81 := ec 81 (by decide) (by decide)
  have e95 : M1 95 = M 95 := ec 95 (by decide) (by decide)
  have e96 : M1 96 = M 96 := ec 96 (by decide) (by decide)
  have e97 : M1 97 = M 97 := ec 97 (by decide) (by decide)
  have hR := cm_read 37 M1 (h.md.of e) (fun j j0 j1 => by rw [e95, e96]; exact h.sl j j0 j1) (fun j j0 j1 => by rw [e97]; exact h.sr j j0 j1) 0 l f n (by decide) (by constructor <;> omega) hf (by constructor <;> omega)
  refine Cl.imp hR fun r M2 hr => ?_
  obtain ⟨-, v', hr, hv'⟩ := hr.resolve_left (fun z => z.1 ⟨⟨by decide, by decide⟩, ⟨h0, h1⟩, h2, h3⟩)
  refine ⟨v', hr, ?_⟩
  rw [e, e95, e96, e97, lnn, l6, a0, a1, mGe e] at hv'
  clear hr hR
  have wb := whZ_b (l := l) (lane := M 72 1) (size := M 72 2) (f := f) h2 h3
  generalize whZ l (M 72 1) (M 72 2) f n = wh at hv hv' wb
  have row : ∀ j : Int, 0 ≤ j → j < wh → M 97 (40 * 0 + (f + 2 * j)) = M 73 (f + 2 * j) ∧ M 97 (40 * 0 + (f + 2 * j + 1)) = M 73 (f + 2 * j + 1) := fun j j0 j1 => ⟨(l7 _ (by omega) (by omega)).1, (l7 _ (by omega) (by omega)).1⟩
  have ro : ∀ j : Int, 0 ≤ j → j < wh → (rdO (fun j => M 97 (40 * 0 + j)) f (M 3 4) (M 3 5) j ↔ rdO (M 73) f (M 3 4) (M 3 5) j) := fun j j0 j1 => by
    obtain ⟨q1, q2⟩ := row j j0 j1
    unfold rdO
    dsimp only
    rw [q1, q2]
  rcases hv with ⟨i, i0, i1, bad, good, hv, e1⟩ | ⟨good, hv, e1⟩ <;> rcases hv' with ⟨i', i0', i1', bad', good', hv', d0, d1⟩ | ⟨good', hv', d0, d80, dl, dg⟩
  · have ei : i' = i := by
      rcases Int.lt_trichotomy i' i with z | z | z
      · exact absurd ((ro i' i0' i1').mpr (good i' i0' z)) bad'
      · exact z
      · exact absurd ((ro i i0 i1).mp (good' i i0 z)) bad
    subst e1
    refine ⟨by rw [hv', hv, ei], h.kp ⟨fun c hc => d0 c (by omega) (by omega), by rw [d0 0 (by decide) (by decide)], by rw [d0 0 (by decide) (by decide)], by rw [d0 80 (by decide) (by decide)], by rw [d0 80 (by decide) (by decide)], by rw [d0 80 (by decide) (by decide)]⟩ (h.2.1.of (d0 3 (by decide) (by decide)) (d0 4 (by decide) (by decide)) (d0 5 (by decide) (by decide)) (d0 6 (by decide) (by decide)) d1)⟩
  · exact absurd ((ro i i0 i1).mp (good' i i0 i1)) bad
  · exact absurd ((ro i' i0' i1').mpr (good i' i0' i1')) bad'
  · have g6 : M2 6 = rdF (M 73) f (M 6) wh.toNat := by rw [d0 6 (by decide) (by decide) (by decide), e1, wr_n _ _ _ (by decide), sc_s]
    have gc : ∀ c, c ≠ 0 → c ≠ 6 → c ≠ 80 → c ≠ 81 → c ≠ 84 → M2 c = M c := fun c k1 k2 k3 k4 k5 => by rw [d0 c k3 k4 k5]; exact ec c k1 k2
    have gz : ∀ c, (1 ≤ c ∧ c < 80 ∧ c ≠ 6) ∨ c = 82 ∨ c = 83 ∨ 85 ≤ c → M2 c = M c := fun c hc => gc c (by omega) (by omega) (by omega) (by omega) (by omega)
    have m0 : M2 0 = upI (M 0) 9 (if wh = n then 0 else faZ l (M 72 1)) := by rw [d0 0 (by decide) (by decide) (by decide), e1, wr_s, sc_n _ _ (by decide)]
    have m80 : M2 80 = upI (M 80) 25 (if wh = n then 0 else faZ l (M 72 1)) := by rw [d80, ec 80 (by decide) (by decide)]
    have rc := rdF_cg (f := f) (row := fun j => M 97 (40 * 0 + j)) (row' := M 73) c3 wh.toNat (fun j j0 j1 => row j j0 (by omega))
    refine ⟨by rw [hv', hv], h.1.of (gz 1 (by omega)) (gz 2 (by omega)) (by rw [m80, up_n _ _ (by decide)]) (gz 86 (by omega)), PkR.mk (pkm_3 ?_) ?_ ?_, ⟨by rw [m80, m0, up_n _ _ (by decide), up_n _ _ (by decide)]; exact h.2.2.1.1, by rw [m80, m0, up_s, up_s]⟩, ⟨h.2.2.2.1.1.of (gz 25 (by omega)) (gz 83 (by omega)) (gz 82 (by omega)) (gz 13 (by omega)) (gz 14 (by omega)) (gz 15 (by omega)) (gz 16 (by omega)), h.2.2.2.1.2.of (gz 25 (by omega)) (gz 83 (by omega)) (gz 82 (by omega)) (gz 18 (by omega)) (gz 19 (by omega)) (gz 20 (by omega)) (gz 21 (by omega))⟩, h.2.2.2.2.of (fun c hc => gz c (by omega))⟩
    · rw [gz 3 (by omega), gz 4 (by omega), gz 5 (by omega), g6]
      refine ⟨n0, n1, k0, k1, f0, f1, r0, r1, s0, s1, fun i i0 i1 => ?_⟩
      have := hP i i0 i1
      have := rdF_b (f := f) (row := M 73) (h := M 6) (n := M 3 4) (k := M 3 5) (fun i i0 i1 => by have := hP i i0 i1; omega) wh.toNat (fun j j0 j1 => good j j0 (by omega)) i i0 i1
      omega
    · rw [gz 3 (by omega), dl 0 (by omega), dl 1 (by omega), dl 2 (by omega), dl 3 (by omega), dl 4 (by omega)]
      exact ⟨a0, a1, a2, a3, a4⟩
    · rw [gz 3 (by omega), gz 4 (by omega), gz 5 (by omega), g6]
      intro i i0 i1
      obtain ⟨b4, b5, b6⟩ := hA i i0 i1
      refine ⟨by rw [dl _ (by omega)]; exact b4, by rw [dl _ (by omega)]; exact b5, ?_⟩
      rw [dg i i0]
      exact rc i i0 i1
theorem ag_sheet_1 {M : Mem} (h : INV M) {l n : Int} (h0 : 0 ≤ l) (h1 : l < 3) (h2 : n ≤ 40) (h3 : 0 ≤ n) : Agr 84 187 [.inl 1, .inl l, .inl n] M := (c_sheet_1 38 M l n h0 h1 h2 h3).imp fun v M1 ⟨hv, e1⟩ => by
  refine (cm_sheet 38 M1 1 l n (by decide) (by constructor <;> omega) (by constructor <;> omega)).imp fun v' M2 hv' => ?_
  obtain ⟨-, hw, e2⟩ := hv'.resolve_left (fun z => z.1 ⟨⟨by decide, by decide⟩, ⟨h0, h1⟩, h2, h3⟩)
  clear hv'
  have gc : ∀ c, c ≠ 74 → c ≠ 75 → c ≠ 95 → c ≠ 96 → c ≠ 97 → M2 c = M c := fun c k1 k2 k3 k4 k5 => by rw [e2, sc_n _ _ k5, wr_n _ _ _ k4, wr_n _ _ _ k3, e1, sc_n _ _ k2, wr_n _ _ _ k1, wr_n _ _ _ k1]
  have g95 : M2 95 = upI (M 95) 1 l := by rw [e2, sc_n _ _ (by decide), wr_n _ _ _ (by decide), wr_s, e1, sc_n _ _ (by decide), wr_n _ _ _ (by decide), wr_n _ _ _ (by decide)]
  have g96 : M2 96 = upI (M 96) 1 n := by rw [e2, sc_n _ _ (by decide), wr_s, wr_n _ _ _ (by decide), e1, sc_n _ _ (by decide), wr_n _ _ _ (by decide), wr_n _ _ _ (by decide)]
  have g97 : M2 97 = shZ (M 97) (40 * 1) 40 := by rw [e2, sc_s, e1, sc_n _ _ (by decide), wr_n _ _ _ (by decide), wr_n _ _ _ (by decide)]
  have ga : M2 74 1 = l := by rw [e2, sc_n _ _ (by decide), wr_n _ _ _ (by decide), wr_n _ _ _ (by decide), e1, sc_n _ _ (by decide), wr_s, up_n _ _ (by decide), wr_s, up_s]
  have gb : M2 74 2 = n := by rw [e2, sc_n _ _ (by decide), wr_n _ _ _ (by decide), wr_n _ _ _ (by decide), e1, sc_n _ _ (by decide), wr_s, up_s]
  have gr : M2 75 = filF (M 75) 0 40 := by rw [e2, sc_n _ _ (by decide), wr_n _ _ _ (by decide), wr_n _ _ _ (by decide), e1, sc_s]
  refine ⟨by rw [hw, hv], h.shg (fun c hc => gc c (by omega) (by omega) (by omega) (by omega) (by omega)) ⟨h.2.2.2.2.1.of2 (gc 72 (by decide) (by decide) (by decide) (by decide) (by decide)) (gc 73 (by decide) (by decide) (by decide) (by decide) (by decide)) (by rw [g95, up_n _ _ (by decide)]) (by rw [g96, up_n _ _ (by decide)]) (fun j j0 j1 => by rw [g97]; exact if_neg (by omega)), ?_, h.2.2.2.2.2.2.1.of2 (gc 76 (by decide) (by decide) (by decide) (by decide) (by decide)) (gc 77 (by decide) (by decide) (by decide) (by decide) (by decide)) (by rw [g95, up_n _ _ (by decide)]) (by rw [g96, up_n _ _ (by decide)]) (fun j j0 j1 => by rw [g97]; exact if_neg (by omega)), h.2.2.2.2.2.2.2.of2 (gc 78 (by decide) (by decide) (by decide) (by decide) (by decide)) (gc 79 (by decide) (by decide) (by decide) (by decide) (by decide)) (by rw [g95, up_n _ _ (by decide)]) (by rw [g96, up_n _ _ (by decide)]) (fun j j0 j1 => by rw [g97]; exact if_neg (by omega))⟩⟩
  refine ⟨by rw [ga]; omega, by rw [ga]; omega, by rw [gb]; omega, by rw [gb]; omega, by rw [g95, up_s, ga, if_neg (by omega)], by rw [g96, up_s, gb], fun j j0 j1 => ?_⟩
  rw [g97, show M2 (74 + 1) = _ from gr]
  unfold shZ filF
  rw [if_pos (by omega), if_pos (by omega)]
  exact ⟨rfl, by decide⟩
theorem ag_lay_1 {M : Mem} (h : INV M) {i v : Int} (hi : inR i) (hv0 : inR v) : Agr 85 188 [.inl 1, .inl i, .inl v] M := by
  obtain ⟨l0, l1, z0, z1, l5, l6, l7⟩ := id h.2.2.2.2.2.1
  have ln := h.2.2.2.2.2.1.lane
  refine (c_lay_1 38 M l0 l1 z0 z1 i v hi).imp fun w M1 hw => ?_
  have ec : ∀ c, c ≠ 75 → M1 c = M c := by
    rcases hw with ⟨-, -, e⟩ | ⟨-, -, -, e⟩ | ⟨-, -, -, e⟩
    · intro c _; rw [e]
    · intro c _; rw [e]
    · intro c hc; rw [e, wr_n _ _ _ hc]
  refine (cm_lay 38 M1 (fun j j0 j1 => by rw [ec 95 (by decide), ec 96 (by decide)]; exact h.sl j j0 j1) 1 i v (by decide) hi).imp fun w' M2 hw' => ?_
  rw [ec 95 (by decide), ec 96 (by decide), l6] at hw'
  replace hw' := hw'.resolve_left (fun z => z.1 ⟨by decide, by decide⟩)
  rcases hw with ⟨q, hv, e1⟩ | ⟨q, p, hv, e1⟩ | ⟨q, p, hv, e1⟩ <;> rcases hw' with ⟨-, q', hv', e2⟩ | ⟨-, q', p', hv', e2⟩ | ⟨-, q', p', hv', e2⟩
  · subst e1 e2
    exact ⟨by rw [hv', hv], h⟩
  · exfalso; omega
  · exfalso; omega
  · exfalso; omega
  · subst e1 e2
    exact ⟨by rw [hv', hv], h⟩
  · exfalso; omega
  · exfalso; omega
  · exfalso; omega
  · have e9 : M 95 1 = M 74 1 := by omega
    rw [e9] at e2
    have gc : ∀ c, c ≠ 75 → c ≠ 97 → M2 c = M c := fun c k1 k2 => by rw [e2, wr_n _ _ _ k2]; exact ec c k1
    have g97 : M2 97 = upI (M 97) (40 * 1 + i) (laV (M 74 1) v) := by rw [e2, wr_s, ec 97 (by decide)]
    have gr : M2 75 = upI (M 75) i (laV (M 74 1) v) := by rw [e2, wr_n _ _ _ (by decide), e1, wr_s]
    refine ⟨by rw [hv', hv], h.shg (fun c hc => gc c (by omega) (by omega)) ⟨h.2.2.2.2.1.of2 (gc 72 (by decide) (by decide)) (gc 73 (by decide) (by decide)) (by rw [gc 95 (by decide) (by decide)]) (by rw [gc 96 (by decide) (by decide)]) (fun j j0 j1 => by rw [g97]; exact up_n _ _ (by omega)), ?_, h.2.2.2.2.2.2.1.of2 (gc 76 (by decide) (by decide)) (gc 77 (by decide) (by decide)) (by rw [gc 95 (by decide) (by decide)]) (by rw [gc 96 (by decide) (by decide)]) (fun j j0 j1 => by rw [g97]; exact up_n _ _ (by omega)), h.2.2.2.2.2.2.2.of2 (gc 78 (by decide) (by decide)) (gc 79 (by decide) (by decide)) (by rw [gc 95 (by decide) (by decide)]) (by rw [gc 96 (by decide) (by decide)]) (fun j j0 j1 => by rw [g97]; exact up_n _ _ (by omega))⟩⟩
    refine ⟨by rw [gc 74 (by decide) (by decide)]; exact l0, by rw [gc 74 (by decide) (by decide)]; exact l1, by rw [gc 74 (by decide) (by decide)]; exact z0, by rw [gc 74 (by decide) (by decide)]; exact z1, by rw [gc 74 (by decide) (by decide), gc 95 (by decide) (by decide)]; exact l5, by rw [gc 74 (by decide) (by decide), gc 96 (by decide) (by decide)]; exact l6, fun j j0 j1 => ?_⟩
    rw [g97, show M2 (74 + 1) = _ from gr]
    by_cases z : j = i
    · rw [z, up_s, up_s]; exact ⟨rfl, laV_r hv0⟩
    · rw [up_n _ _ z, up_n _ _ (by omega)]; exact l7 j j0 j1
theorem ag_read_1 {M : Mem} (h : INV M) {l f n : Int} (h0 : 0 ≤ l) (h1 : l < 3) (hf : inR f) (h2 : 0 ≤ n) (h3 : n ≤ 20) : Agr 86 189 [.inl 1, .inl l, .inl f, .inl n] M := by
  obtain ⟨l0, l1, z0, z1, l5, l6, l7⟩ := id h.2.2.2.2.2.1
  have lnn := h.2.2.2.2.2.1.n
  obtain ⟨⟨a0, a1, a2, a3, a4⟩, c1, c2, c3⟩ := h.2.1.eqs
  have hA := h.2.1.all
  obtain ⟨n0, n1, k0, k1, f0, f1, r0, r1, s0, s1, hP⟩ := pkd_3 h.pk
  refine (c_read_1 35 M h.pk l0 l1 z0 z1 (fun j j0 j1 => (l7 j j0 j1).2) l f n h0 h1 hf h2 h3).imp fun v M1 hv => ?_
  have ec : ∀ c, c ≠ 0 → c ≠ 6 → M1 c = M c := by
    rcases hv with ⟨i, -, -, -, -, -, e⟩ | ⟨-, -, e⟩
    · intro c _ _; rw [e]
    · intro c k1 k2; rw [e, wr_n _ _ _ k1, sc_n _ _ k2]
  have e : M1 81 = M 81 := ec 81 (by decide) (by decide)
  have e95 : M1 95 = M 95 := ec 95 (by decide) (by decide)
  have e96 : M1 96 = M 96 := ec 96 (by decide) (by decide)
  have e97 : M1 97 = M 97 := ec 97 (by decide) (by decide)
  have hR := cm_read 37 M1 (h.md.of e) (fun j j0 j1 => by rw [e95, e96]; exact h.sl j j0 j1) (fun j j0 j1 => by rw [e97]; exact h.sr j j0 j1) 1 l f n (by decide) (by constructor <;> omega) hf (by constructor <;> omega)
  refine Cl.imp hR fun r M2 hr => ?_
  obtain ⟨-, v', hr, hv'⟩ := hr.resolve_left (fun z => z.1 ⟨⟨by decide, by decide⟩, ⟨h0, h1⟩, h2, h3⟩)
  refine ⟨v', hr, ?_⟩
  rw [e, e95, e96, e97, lnn, l6, a0, a1, mGe e] at hv'
  clear hr hR
  have wb := whZ_b (l := l) (lane := M 74 1) (size := M 74 2) (f := f) h2 h3
  generalize whZ l (M 74 1) (M 74 2) f n = wh at hv hv' wb
  have row : ∀ j : Int, 0 ≤ j → j < wh → M 97 (40 * 1 + (f + 2 * j)) = M 75 (f + 2 * j) ∧ M 97 (40 * 1 + (f + 2 * j + 1)) = M 75 (f + 2 * j + 1) := fun j j0 j1 => ⟨(l7 _ (by omega) (by omega)).1, (l7 _ (by omega) (by omega)).1⟩
  have ro : ∀ j : Int, 0 ≤ j → j < wh → (rdO (fun j => M 97 (40 * 1 + j)) f (M 3 4) (M 3 5) j ↔ rdO (M 75) f (M 3 4) (M 3 5) j) := fun j j0 j1 => by
    obtain ⟨q1, q2⟩ := row j j0 j1
    unfold rdO
    dsimp only
    rw [q1, q2]
  rcases hv with ⟨i, i0, i1, bad, good, hv, e1⟩ | ⟨good, hv, e1⟩ <;> rcases hv' with ⟨i', i0', i1', bad', good', hv', d0, d1⟩ | ⟨good', hv', d0, d80, dl, dg⟩
  · have ei : i' = i := by
      rcases Int.lt_trichotomy i' i with z | z | z
      · exact absurd ((ro i' i0' i1').mpr (good i' i0' z)) bad'
      · exact z
      · exact absurd ((ro i i0 i1).mp (good' i i0 z)) bad
    subst e1
    refine ⟨by rw [hv', hv, ei], h.kp ⟨fun c hc => d0 c (by omega) (by omega), by rw [d0 0 (by decide) (by decide)], by rw [d0 0 (by decide) (by decide)], by rw [d0 80 (by decide) (by decide)], by rw [d0 80 (by decide) (by decide)], by rw [d0 80 (by decide) (by decide)]⟩ (h.2.1.of (d0 3 (by decide) (by decide)) (d0 4 (by decide) (by decide)) (d0 5 (by decide) (by decide)) (d0 6 (by decide) (by decide)) d1)⟩
  · exact absurd ((ro i i0 i1).mp (good' i i0 i1)) bad
  · exact absurd ((ro i' i0' i1').mpr (good i' i0' i1')) bad'
  · have g6 : M2 6 = rdF (M 75) f (M 6) wh.toNat := by rw [d0 6 (by decide) (by decide) (by decide), e1, wr_n _ _ _ (by decide), sc_s]
    have gc : ∀ c, c ≠ 0 → c ≠ 6 → c ≠ 80 → c ≠ 81 → c ≠ 84 → M2 c = M c := fun c k1 k2 k3 k4 k5 => by rw [d0 c k3 k4 k5]; exact ec c k1 k2
    have gz : ∀ c, (1 ≤ c ∧ c < 80 ∧ c ≠ 6) ∨ c = 82 ∨ c = 83 ∨ 85 ≤ c → M2 c = M c := fun c hc => gc c (by omega) (by omega) (by omega) (by omega) (by omega)
    have m0 : M2 0 = upI (M 0) 9 (if wh = n then 0 else faZ l (M 74 1)) := by rw [d0 0 (by decide) (by decide) (by decide), e1, wr_s, sc_n _ _ (by decide)]
    have m80 : M2 80 = upI (M 80) 25 (if wh = n then 0 else faZ l (M 74 1)) := by rw [d80, ec 80 (by decide) (by decide)]
    have rc := rdF_cg (f := f) (row := fun j => M 97 (40 * 1 + j)) (row' := M 75) c3 wh.toNat (fun j j0 j1 => row j j0 (by omega))
    refine ⟨by rw [hv', hv], h.1.of (gz 1 (by omega)) (gz 2 (by omega)) (by rw [m80, up_n _ _ (by decide)]) (gz 86 (by omega)), PkR.mk (pkm_3 ?_) ?_ ?_, ⟨by rw [m80, m0, up_n _ _ (by decide), up_n _ _ (by decide)]; exact h.2.2.1.1, by rw [m80, m0, up_s, up_s]⟩, ⟨h.2.2.2.1.1.of (gz 25 (by omega)) (gz 83 (by omega)) (gz 82 (by omega)) (gz 13 (by omega)) (gz 14 (by omega)) (gz 15 (by omega)) (gz 16 (by omega)), h.2.2.2.1.2.of (gz 25 (by omega)) (gz 83 (by omega)) (gz 82 (by omega)) (gz 18 (by omega)) (gz 19 (by omega)) (gz 20 (by omega)) (gz 21 (by omega))⟩, h.2.2.2.2.of (fun c hc => gz c (by omega))⟩
    · rw [gz 3 (by omega), gz 4 (by omega), gz 5 (by omega), g6]
      refine ⟨n0, n1, k0, k1, f0, f1, r0, r1, s0, s1, fun i i0 i1 => ?_⟩
      have := hP i i0 i1
      have := rdF_b (f := f) (row := M 75) (h := M 6) (n := M 3 4) (k := M 3 5) (fun i i0 i1 => by have := hP i i0 i1; omega) wh.toNat (fun j j0 j1 => good j j0 (by omega)) i i0 i1
      omega
    · rw [gz 3 (by omega), dl 0 (by omega), dl 1 (by omega), dl 2 (by omega), dl 3 (by omega), dl 4 (by omega)]
      exact ⟨a0, a1, a2, a3, a4⟩
    · rw [gz 3 (by omega), gz 4 (by omega), gz 5 (by omega), g6]
      intro i i0 i1
      obtain ⟨b4, b5, b6⟩ := hA i i0 i1
      refine ⟨by rw [dl _ (by omega)]; exact b4, by rw [dl _ (by omega)]; exact b5, ?_⟩
      rw [dg i i0]
      exact rc i i0 i1
theorem ag_sheet_2 {M : Mem} (h : INV M) {l n : Int} (h0 : 0 ≤ l) (h1 : l < 3) (h2 : n ≤ 40) (h3 : 0 ≤ n) : Agr 84 187 [.inl 2, .inl l, .inl n] M := (c_sheet_2 38 M l n h0 h1 h2 h3).imp fun v M1 ⟨hv, e1⟩ => by
  refine (cm_sheet 38 M1 2 l n (by decide) (by constructor <;> omega) (by constructor <;> omega)).imp fun v' M2 hv' => ?_
  obtain ⟨-, hw, e2⟩ := hv'.resolve_left (fun z => z.1 ⟨⟨by decide, by decide⟩, ⟨h0, h1⟩, h2, h3⟩)
  clear hv'
  have gc : ∀ c, c ≠ 76 → c ≠ 77 → c ≠ 95 → c ≠ 96 → c ≠ 97 → M2 c = M c := fun c k1 k2 k3 k4 k5 => by rw [e2, sc_n _ _ k5, wr_n _ _ _ k4, wr_n _ _ _ k3, e1, sc_n _ _ k2, wr_n _ _ _ k1, wr_n _ _ _ k1]
  have g95 : M2 95 = upI (M 95) 2 l := by rw [e2, sc_n _ _ (by decide), wr_n _ _ _ (by decide), wr_s, e1, sc_n _ _ (by decide), wr_n _ _ _ (by decide), wr_n _ _ _ (by decide)]
  have g96 : M2 96 = upI (M 96) 2 n := by rw [e2, sc_n _ _ (by decide), wr_s, wr_n _ _ _ (by decide), e1, sc_n _ _ (by decide), wr_n _ _ _ (by decide), wr_n _ _ _ (by decide)]
  have g97 : M2 97 = shZ (M 97) (40 * 2) 40 := by rw [e2, sc_s, e1, sc_n _ _ (by decide), wr_n _ _ _ (by decide), wr_n _ _ _ (by decide)]
  have ga : M2 76 1 = l := by rw [e2, sc_n _ _ (by decide), wr_n _ _ _ (by decide), wr_n _ _ _ (by decide), e1, sc_n _ _ (by decide), wr_s, up_n _ _ (by decide), wr_s, up_s]
  have gb : M2 76 2 = n := by rw [e2, sc_n _ _ (by decide), wr_n _ _ _ (by decide), wr_n _ _ _ (by decide), e1, sc_n _ _ (by decide), wr_s, up_s]
  have gr : M2 77 = filF (M 77) 0 40 := by rw [e2, sc_n _ _ (by decide), wr_n _ _ _ (by decide), wr_n _ _ _ (by decide), e1, sc_s]
  refine ⟨by rw [hw, hv], h.shg (fun c hc => gc c (by omega) (by omega) (by omega) (by omega) (by omega)) ⟨h.2.2.2.2.1.of2 (gc 72 (by decide) (by decide) (by decide) (by decide) (by decide)) (gc 73 (by decide) (by decide) (by decide) (by decide) (by decide)) (by rw [g95, up_n _ _ (by decide)]) (by rw [g96, up_n _ _ (by decide)]) (fun j j0 j1 => by rw [g97]; exact if_neg (by omega)), h.2.2.2.2.2.1.of2 (gc 74 (by decide) (by decide) (by decide) (by decide) (by decide)) (gc 75 (by decide) (by decide) (by decide) (by decide) (by decide)) (by rw [g95, up_n _ _ (by decide)]) (by rw [g96, up_n _ _ (by decide)]) (fun j j0 j1 => by rw [g97]; exact if_neg (by omega)), ?_, h.2.2.2.2.2.2.2.of2 (gc 78 (by decide) (by decide) (by decide) (by decide) (by decide)) (gc 79 (by decide) (by decide) (by decide) (by decide) (by decide)) (by rw [g95, up_n _ _ (by decide)]) (by rw [g96, up_n _ _ (by decide)]) (fun j j0 j1 => by rw [g97]; exact if_neg (by omega))⟩⟩
  refine ⟨by rw [ga]; omega, by rw [ga]; omega, by rw [gb]; omega, by rw [gb]; omega, by rw [g95, up_s, ga, if_neg (by omega)], by rw [g96, up_s, gb], fun j j0 j1 => ?_⟩
  rw [g97, show M2 (76 + 1) = _ from gr]
  unfold shZ filF
  rw [if_pos (by omega), if_pos (by omega)]
  exact ⟨rfl, by decide⟩
theorem ag_lay_2 {M : Mem} (h : INV M) {i v : Int} (hi : inR i) (hv0 : inR v) : Agr 85 188 [.inl 2, .inl i, .inl v] M := by
  obtain ⟨l0, l1, z0, z1, l5, l6, l7⟩ := id h.2.2.2.2.2.2.1
  have ln := h.2.2.2.2.2.2.1.lane
  refine (c_lay_2 38 M l0 l1 z0 z1 i v hi).imp fun w M1 hw => ?_
  have ec : ∀ c, c ≠ 77 → M1 c = M c := by
    rcases hw with ⟨-, -, e⟩ | ⟨-, -, -, e⟩ | ⟨-, -, -, e⟩
    · intro c _; rw [e]
    · intro c _; rw [e]
    · intro c hc; rw [e, wr_n _ _ _ hc]
  refine (cm_lay 38 M1 (fun j j0 j1 => by rw [ec 95 (by decide), ec 96 (by decide)]; exact h.sl j j0 j1) 2 i v (by decide) hi).imp fun w' M2 hw' => ?_
  rw [ec 95 (by decide), ec 96 (by decide), l6] at hw'
  replace hw' := hw'.resolve_left (fun z => z.1 ⟨by decide, by decide⟩)
  rcases hw with ⟨q, hv, e1⟩ | ⟨q, p, hv, e1⟩ | ⟨q, p, hv, e1⟩ <;> rcases hw' with ⟨-, q', hv', e2⟩ | ⟨-, q', p', hv', e2⟩ | ⟨-, q', p', hv', e2⟩
  · subst e1 e2
    exact ⟨by rw [hv', hv], h⟩
  · exfalso; omega
  · exfalso; omega
  · exfalso; omega
  · subst e1 e2
    exact ⟨by rw [hv', hv], h⟩
  · exfalso; omega
  · exfalso; omega
  · exfalso; omega
  · have e9 : M 95 2 = M 76 1 := by omega
    rw [e9] at e2
    have gc : ∀ c, c ≠ 77 → c ≠ 97 → M2 c = M c := fun c k1 k2 => by rw [e2, wr_n _ _ _ k2]; exact ec c k1
    have g97 : M2 97 = upI (M 97) (40 * 2 + i) (laV (M 76 1) v) := by rw [e2, wr_s, ec 97 (by decide)]
    have gr : M2 77 = upI (M 77) i (laV (M 76 1) v) := by rw [e2, wr_n _ _ _ (by decide), e1, wr_s]
    refine ⟨by rw [hv', hv], h.shg (fun c hc => gc c (by omega) (by omega)) ⟨h.2.2.2.2.1.of2 (gc 72 (by decide) (by decide)) (gc 73 (by decide) (by decide)) (by rw [gc 95 (by decide) (by decide)]) (by rw [gc 96 (by decide) (by decide)]) (fun j j0 j1 => by rw [g97]; exact up_n _ _ (by omega)), h.2.2.2.2.2.1.of2 (gc 74 (by decide) (by decide)) (gc 75 (by decide) (by decide)) (by rw [gc 95 (by decide) (by decide)]) (by rw [gc 96 (by decide) (by decide)]) (fun j j0 j1 => by rw [g97]; exact up_n _ _ (by omega)), ?_, h.2.2.2.2.2.2.2.of2 (gc 78 (by decide) (by decide)) (gc 79 (by decide) (by decide)) (by rw [gc 95 (by decide) (by decide)]) (by rw [gc 96 (by decide) (by decide)]) (fun j j0 j1 => by rw [g97]; exact up_n _ _ (by omega))⟩⟩
    refine ⟨by rw [gc 76 (by decide) (by decide)]; exact l0, by rw [gc 76 (by decide) (by decide)]; exact l1, by rw [gc 76 (by decide) (by decide)]; exact z0, by rw [gc 76 (by decide) (by decide)]; exact z1, by rw [gc 76 (by decide) (by decide), gc 95 (by decide) (by decide)]; exact l5, by rw [gc 76 (by decide) (by decide), gc 96 (by decide) (by decide)]; exact l6, fun j j0 j1 => ?_⟩
    rw [g97, show M2 (76 + 1) = _ from gr]
    by_cases z : j = i
    · rw [z, up_s, up_s]; exact ⟨rfl, laV_r hv0⟩
    · rw [up_n _ _ z, up_n _ _ (by omega)]; exact l7 j j0 j1
theorem ag_read_2 {M : Mem} (h : INV M) {l f n : Int} (h0 : 0 ≤ l) (h1 : l < 3) (hf : inR f) (h2 : 0 ≤ n) (h3 : n ≤ 20) : Agr 86 189 [.inl 2, .inl l, .inl f, .inl n] M := by
  obtain ⟨l0, l1, z0, z1, l5, l6, l7⟩ := id h.2.2.2.2.2.2.1
  have lnn := h.2.2.2.2.2.2.1.n
  obtain ⟨⟨a0, a1, a2, a3, a4⟩, c1, c2, c3⟩ := h.2.1.eqs
  have hA := h.2.1.all
  obtain ⟨n0, n1, k0, k1, f0, f1, r0, r1, s0, s1, hP⟩ := pkd_3 h.pk
  refine (c_read_2 35 M h.pk l0 l1 z0 z1 (fun j j0 j1 => (l7 j j0 j1).2) l f n h0 h1 hf h2 h3).imp fun v M1 hv => ?_
  have ec : ∀ c, c ≠ 0 → c ≠ 6 → M1 c = M c := by
    rcases hv with ⟨i, -, -, -, -, -, e⟩ | ⟨-, -, e⟩
    · intro c _ _; rw [e]
    · intro c k1 k2; rw [e, wr_n _ _ _ k1, sc_n _ _ k2]
  have e : M1 81 = M 81 := ec 81 (by decide) (by decide)
  have e95 : M1 95 = M 95 := ec 95 (by decide) (by decide)
  have e96 : M1 96 = M 96 := ec 96 (by decide) (by decide)
  have e97 : M1 97 = M 97 := ec 97 (by decide) (by decide)
  have hR := cm_read 37 M1 (h.md.of e) (fun j j0 j1 => by rw [e95, e96]; exact h.sl j j0 j1) (fun j j0 j1 => by rw [e97]; exact h.sr j j0 j1) 2 l f n (by decide) (by constructor <;> omega) hf (by constructor <;> omega)
  refine Cl.imp hR fun r M2 hr => ?_
  obtain ⟨-, v', hr, hv'⟩ := hr.resolve_left (fun z => z.1 ⟨⟨by decide, by decide⟩, ⟨h0, h1⟩, h2, h3⟩)
  refine ⟨v', hr, ?_⟩
  rw [e, e95, e96, e97, lnn, l6, a0, a1, mGe e] at hv'
  clear hr hR
  have wb := whZ_b (l := l) (lane := M 76 1) (size := M 76 2) (f := f) h2 h3
  generalize whZ l (M 76 1) (M 76 2) f n = wh at hv hv' wb
  have row : ∀ j : Int, 0 ≤ j → j < wh → M 97 (40 * 2 + (f + 2 * j)) = M 77 (f + 2 * j) ∧ M 97 (40 * 2 + (f + 2 * j + 1)) = M 77 (f + 2 * j + 1) := fun j j0 j1 => ⟨(l7 _ (by omega) (by omega)).1, (l7 _ (by omega) (by omega)).1⟩
  have ro : ∀ j : Int, 0 ≤ j → j < wh → (rdO (fun j => M 97 (40 * 2 + j)) f (M 3 4) (M 3 5) j ↔ rdO (M 77) f (M 3 4) (M 3 5) j) := fun j j0 j1 => by
    obtain ⟨q1, q2⟩ := row j j0 j1
    unfold rdO
    dsimp only
    rw [q1, q2]
  rcases hv with ⟨i, i0, i1, bad, good, hv, e1⟩ | ⟨good, hv, e1⟩ <;> rcases hv' with ⟨i', i0', i1', bad', good', hv', d0, d1⟩ | ⟨good', hv', d0, d80, dl, dg⟩
  · have ei : i' = i := by
      rcases Int.lt_trichotomy i' i with z | z | z
      · exact absurd ((ro i' i0' i1').mpr (good i' i0' z)) bad'
      · exact z
      · exact absurd ((ro i i0 i1).mp (good' i i0 z)) bad
    subst e1
    refine ⟨by rw [hv', hv, ei], h.kp ⟨fun c hc => d0 c (by omega) (by omega), by rw [d0 0 (by decide) (by decide)], by rw [d0 0 (by decide) (by decide)], by rw [d0 80 (by decide) (by decide)], by rw [d0 80 (by decide) (by decide)], by rw [d0 80 (by decide) (by decide)]⟩ (h.2.1.of (d0 3 (by decide) (by decide)) (d0 4 (by decide) (by decide)) (d0 5 (by decide) (by decide)) (d0 6 (by decide) (by decide)) d1)⟩
  · exact absurd ((ro i i0 i1).mp (good' i i0 i1)) bad
  · exact absurd ((ro i' i0' i1').mpr (good i' i0' i1')) bad'
  · have g6 : M2 6 = rdF (M 77) f (M 6) wh.toNat := by rw [d0 6 (by decide) (by decide) (by decide), e1, wr_n _ _ _ (by decide), sc_s]
    have gc : ∀ c, c ≠ 0 → c ≠ 6 → c ≠ 80 → c ≠ 81 → c ≠ 84 → M2 c = M c := fun c k1 k2 k3 k4 k5 => by rw [d0 c k3 k4 k5]; exact ec c k1 k2
    have gz : ∀ c, (1 ≤ c ∧ c < 80 ∧ c ≠ 6) ∨ c = 82 ∨ c = 83 ∨ 85 ≤ c → M2 c = M c := fun c hc => gc c (by omega) (by omega) (by omega) (by omega) (by omega)
    have m0 : M2 0 = upI (M 0) 9 (if wh = n then 0 else faZ l (M 76 1)) := by rw [d0 0 (by decide) (by decide) (by decide), e1, wr_s, sc_n _ _ (by decide)]
    have m80 : M2 80 = upI (M 80) 25 (if wh = n then 0 else faZ l (M 76 1)) := by rw [d80, ec 80 (by decide) (by decide)]
    have rc := rdF_cg (f := f) (row := fun j => M 97 (40 * 2 + j)) (row' := M 77) c3 wh.toNat (fun j j0 j1 => row j j0 (by omega))
    refine ⟨by rw [hv', hv], h.1.of (gz 1 (by omega)) (gz 2 (by omega)) (by rw [m80, up_n _ _ (by decide)]) (gz 86 (by omega)), PkR.mk (pkm_3 ?_) ?_ ?_, ⟨by rw [m80, m0, up_n _ _ (by decide), up_n _ _ (by decide)]; exact h.2.2.1.1, by rw [m80, m0, up_s, up_s]⟩, ⟨h.2.2.2.1.1.of (gz 25 (by omega)) (gz 83 (by omega)) (gz 82 (by omega)) (gz 13 (by omega)) (gz 14 (by omega)) (gz 15 (by omega)) (gz 16 (by omega)), h.2.2.2.1.2.of (gz 25 (by omega)) (gz 83 (by omega)) (gz 82 (by omega)) (gz 18 (by omega)) (gz 19 (by omega)) (gz 20 (by omega)) (gz 21 (by omega))⟩, h.2.2.2.2.of (fun c hc => gz c (by omega))⟩
    · rw [gz 3 (by omega), gz 4 (by omega), gz 5 (by omega), g6]
      refine ⟨n0, n1, k0, k1, f0, f1, r0, r1, s0, s1, fun i i0 i1 => ?_⟩
      have := hP i i0 i1
      have := rdF_b (f := f) (row := M 77) (h := M 6) (n := M 3 4) (k := M 3 5) (fun i i0 i1 => by have := hP i i0 i1; omega) wh.toNat (fun j j0 j1 => good j j0 (by omega)) i i0 i1
      omega
    · rw [gz 3 (by omega), dl 0 (by omega), dl 1 (by omega), dl 2 (by omega), dl 3 (by omega), dl 4 (by omega)]
      exact ⟨a0, a1, a2, a3, a4⟩
    · rw [gz 3 (by omega), gz 4 (by omega), gz 5 (by omega), g6]
      intro i i0 i1
      obtain ⟨b4, b5, b6⟩ := hA i i0 i1
      refine ⟨by rw [dl _ (by omega)]; exact b4, by rw [dl _ (by omega)]; exact b5, ?_⟩
      rw [dg i i0]
      exact rc i i0 i1
theorem ag_sheet_3 {M : Mem} (h : INV M) {l n : Int} (h0 : 0 ≤ l) (h1 : l < 3) (h2 : n ≤ 40) (h3 : 0 ≤ n) : Agr 84 187 [.inl 3, .inl l, .inl n] M := (c_sheet_3 38 M l n h0 h1 h2 h3).imp fun v M1 ⟨hv, e1⟩ => by
  refine (cm_sheet 38 M1 3 l n (by decide) (by constructor <;> omega) (by constructor <;> omega)).imp fun v' M2 hv' => ?_
  obtain ⟨-, hw, e2⟩ := hv'.resolve_left (fun z => z.1 ⟨⟨by decide, by decide⟩, ⟨h0, h1⟩, h2, h3⟩)
  clear hv'
  have gc : ∀ c, c ≠ 78 → c ≠ 79 → c ≠ 95 → c ≠ 96 → c ≠ 97 → M2 c = M c := fun c k1 k2 k3 k4 k5 => by rw [e2, sc_n _ _ k5, wr_n _ _ _ k4, wr_n _ _ _ k3, e1, sc_n _ _ k2, wr_n _ _ _ k1, wr_n _ _ _ k1]
  have g95 : M2 95 = upI (M 95) 3 l := by rw [e2, sc_n _ _ (by decide), wr_n _ _ _ (by decide), wr_s, e1, sc_n _ _ (by decide), wr_n _ _ _ (by decide), wr_n _ _ _ (by decide)]
  have g96 : M2 96 = upI (M 96) 3 n := by rw [e2, sc_n _ _ (by decide), wr_s, wr_n _ _ _ (by decide), e1, sc_n _ _ (by decide), wr_n _ _ _ (by decide), wr_n _ _ _ (by decide)]
  have g97 : M2 97 = shZ (M 97) (40 * 3) 40 := by rw [e2, sc_s, e1, sc_n _ _ (by decide), wr_n _ _ _ (by decide), wr_n _ _ _ (by decide)]
  have ga : M2 78 1 = l := by rw [e2, sc_n _ _ (by decide), wr_n _ _ _ (by decide), wr_n _ _ _ (by decide), e1, sc_n _ _ (by decide), wr_s, up_n _ _ (by decide), wr_s, up_s]
  have gb : M2 78 2 = n := by rw [e2, sc_n _ _ (by decide), wr_n _ _ _ (by decide), wr_n _ _ _ (by decide), e1, sc_n _ _ (by decide), wr_s, up_s]
  have gr : M2 79 = filF (M 79) 0 40 := by rw [e2, sc_n _ _ (by decide), wr_n _ _ _ (by decide), wr_n _ _ _ (by decide), e1, sc_s]
  refine ⟨by rw [hw, hv], h.shg (fun c hc => gc c (by omega) (by omega) (by omega) (by omega) (by omega)) ⟨h.2.2.2.2.1.of2 (gc 72 (by decide) (by decide) (by decide) (by decide) (by decide)) (gc 73 (by decide) (by decide) (by decide) (by decide) (by decide)) (by rw [g95, up_n _ _ (by decide)]) (by rw [g96, up_n _ _ (by decide)]) (fun j j0 j1 => by rw [g97]; exact if_neg (by omega)), h.2.2.2.2.2.1.of2 (gc 74 (by decide) (by decide) (by decide) (by decide) (by decide)) (gc 75 (by decide) (by decide) (by decide) (by decide) (by decide)) (by rw [g95, up_n _ _ (by decide)]) (by rw [g96, up_n _ _ (by decide)]) (fun j j0 j1 => by rw [g97]; exact if_neg (by omega)), h.2.2.2.2.2.2.1.of2 (gc 76 (by decide) (by decide) (by decide) (by decide) (by decide)) (gc 77 (by decide) (by decide) (by decide) (by decide) (by decide)) (by rw [g95, up_n _ _ (by decide)]) (by rw [g96, up_n _ _ (by decide)]) (fun j j0 j1 => by rw [g97]; exact if_neg (by omega)), ?_⟩⟩
  refine ⟨by rw [ga]; omega, by rw [ga]; omega, by rw [gb]; omega, by rw [gb]; omega, by rw [g95, up_s, ga, if_neg (by omega)], by rw [g96, up_s, gb], fun j j0 j1 => ?_⟩
  rw [g97, show M2 (78 + 1) = _ from gr]
  unfold shZ filF
  rw [if_pos (by omega), if_pos (by omega)]
  exact ⟨rfl, by decide⟩
theorem ag_lay_3 {M : Mem} (h : INV M) {i v : Int} (hi : inR i) (hv0 : inR v) : Agr 85 188 [.inl 3, .inl i, .inl v] M := by
  obtain ⟨l0, l1, z0, z1, l5, l6, l7⟩ := id h.2.2.2.2.2.2.2
  have ln := h.2.2.2.2.2.2.2.lane
  refine (c_lay_3 38 M l0 l1 z0 z1 i v hi).imp fun w M1 hw => ?_
  have ec : ∀ c, c ≠ 79 → M1 c = M c := by
    rcases hw with ⟨-, -, e⟩ | ⟨-, -, -, e⟩ | ⟨-, -, -, e⟩
    · intro c _; rw [e]
    · intro c _; rw [e]
    · intro c hc; rw [e, wr_n _ _ _ hc]
  refine (cm_lay 38 M1 (fun j j0 j1 => by rw [ec 95 (by decide), ec 96 (by decide)]; exact h.sl j j0 j1) 3 i v (by decide) hi).imp fun w' M2 hw' => ?_
  rw [ec 95 (by decide), ec 96 (by decide), l6] at hw'
  replace hw' := hw'.resolve_left (fun z => z.1 ⟨by decide, by decide⟩)
  rcases hw with ⟨q, hv, e1⟩ | ⟨q, p, hv, e1⟩ | ⟨q, p, hv, e1⟩ <;> rcases hw' with ⟨-, q', hv', e2⟩ | ⟨-, q', p', hv', e2⟩ | ⟨-, q', p', hv', e2⟩
  · subst e1 e2
    exact ⟨by rw [hv', hv], h⟩
  · exfalso; omega
  · exfalso; omega
  · exfalso; omega
  · subst e1 e2
    exact ⟨by rw [hv', hv], h⟩
  · exfalso; omega
  · exfalso; omega
  · exfalso; omega
  · have e9 : M 95 3 = M 78 1 := by omega
    rw [e9] at e2
    have gc : ∀ c, c ≠ 79 → c ≠ 97 → M2 c = M c := fun c k1 k2 => by rw [e2, wr_n _ _ _ k2]; exact ec c k1
    have g97 : M2 97 = upI (M 97) (40 * 3 + i) (laV (M 78 1) v) := by rw [e2, wr_s, ec 97 (by decide)]
    have gr : M2 79 = upI (M 79) i (laV (M 78 1) v) := by rw [e2, wr_n _ _ _ (by decide), e1, wr_s]
    refine ⟨by rw [hv', hv], h.shg (fun c hc => gc c (by omega) (by omega)) ⟨h.2.2.2.2.1.of2 (gc 72 (by decide) (by decide)) (gc 73 (by decide) (by decide)) (by rw [gc 95 (by decide) (by decide)]) (by rw [gc 96 (by decide) (by decide)]) (fun j j0 j1 => by rw [g97]; exact up_n _ _ (by omega)), h.2.2.2.2.2.1.of2 (gc 74 (by decide) (by decide)) (gc 75 (by decide) (by decide)) (by rw [gc 95 (by decide) (by decide)]) (by rw [gc 96 (by decide) (by decide)]) (fun j j0 j1 => by rw [g97]; exact up_n _ _ (by omega)), h.2.2.2.2.2.2.1.of2 (gc 76 (by decide) (by decide)) (gc 77 (by decide) (by decide)) (by rw [gc 95 (by decide) (by decide)]) (by rw [gc 96 (by decide) (by decide)]) (fun j j0 j1 => by rw [g97]; exact up_n _ _ (by omega)), ?_⟩⟩
    refine ⟨by rw [gc 78 (by decide) (by decide)]; exact l0, by rw [gc 78 (by decide) (by decide)]; exact l1, by rw [gc 78 (by decide) (by decide)]; exact z0, by rw [gc 78 (by decide) (by decide)]; exact z1, by rw [gc 78 (by decide) (by decide), gc 95 (by decide) (by decide)]; exact l5, by rw [gc 78 (by decide) (by decide), gc 96 (by decide) (by decide)]; exact l6, fun j j0 j1 => ?_⟩
    rw [g97, show M2 (78 + 1) = _ from gr]
    by_cases z : j = i
    · rw [z, up_s, up_s]; exact ⟨rfl, laV_r hv0⟩
    · rw [up_n _ _ z, up_n _ _ (by omega)]; exact l7 j j0 j1
theorem ag_read_3 {M : Mem} (h : INV M) {l f n : Int} (h0 : 0 ≤ l) (h1 : l < 3) (hf : inR f) (h2 : 0 ≤ n) (h3 : n ≤ 20) : Agr 86 189 [.inl 3, .inl l, .inl f, .inl n] M := by
  obtain ⟨l0, l1, z0, z1, l5, l6, l7⟩ := id h.2.2.2.2.2.2.2
  have lnn := h.2.2.2.2.2.2.2.n
  obtain ⟨⟨a0, a1, a2, a3, a4⟩, c1, c2, c3⟩ := h.2.1.eqs
  have hA := h.2.1.all
  obtain ⟨n0, n1, k0, k1, f0, f1, r0, r1, s0, s1, hP⟩ := pkd_3 h.pk
  refine (c_read_3 35 M h.pk l0 l1 z0 z1 (fun j j0 j1 => (l7 j j0 j1).2) l f n h0 h1 hf h2 h3).imp fun v M1 hv => ?_
  have ec : ∀ c, c ≠ 0 → c ≠ 6 → M1 c = M c := by
    rcases hv with ⟨i, -, -, -, -, -, e⟩ | ⟨-, -, e⟩
    · intro c _ _; rw [e]
    · intro c k1 k2; rw [e, wr_n _ _ _ k1, sc_n _ _ k2]
  have e : M1 81 = M 81 := ec 81 (by decide) (by decide)
  have e95 : M1 95 = M 95 := ec 95 (by decide) (by decide)
  have e96 : M1 96 = M 96 := ec 96 (by decide) (by decide)
  have e97 : M1 97 = M 97 := ec 97 (by decide) (by decide)
  have hR := cm_read 37 M1 (h.md.of e) (fun j j0 j1 => by rw [e95, e96]; exact h.sl j j0 j1) (fun j j0 j1 => by rw [e97]; exact h.sr j j0 j1) 3 l f n (by decide) (by constructor <;> omega) hf (by constructor <;> omega)
  refine Cl.imp hR fun r M2 hr => ?_
  obtain ⟨-, v', hr, hv'⟩ := hr.resolve_left (fun z => z.1 ⟨⟨by decide, by decide⟩, ⟨h0, h1⟩, h2, h3⟩)
  refine ⟨v', hr, ?_⟩
  rw [e, e95, e96, e97, lnn, l6, a0, a1, mGe e] at hv'
  clear hr hR
  have wb := whZ_b (l := l) (lane := M 78 1) (size := M 78 2) (f := f) h2 h3
  generalize whZ l (M 78 1) (M 78 2) f n = wh at hv hv' wb
  have row : ∀ j : Int, 0 ≤ j → j < wh → M 97 (40 * 3 + (f + 2 * j)) = M 79 (f + 2 * j) ∧ M 97 (40 * 3 + (f + 2 * j + 1)) = M 79 (f + 2 * j + 1) := fun j j0 j1 => ⟨(l7 _ (by omega) (by omega)).1, (l7 _ (by omega) (by omega)).1⟩
  have ro : ∀ j : Int, 0 ≤ j → j < wh → (rdO (fun j => M 97 (40 * 3 + j)) f (M 3 4) (M 3 5) j ↔ rdO (M 79) f (M 3 4) (M 3 5) j) := fun j j0 j1 => by
    obtain ⟨q1, q2⟩ := row j j0 j1
    unfold rdO
    dsimp only
    rw [q1, q2]
  rcases hv with ⟨i, i0, i1, bad, good, hv, e1⟩ | ⟨good, hv, e1⟩ <;> rcases hv' with ⟨i', i0', i1', bad', good', hv', d0, d1⟩ | ⟨good', hv', d0, d80, dl, dg⟩
  · have ei : i' = i := by
      rcases Int.lt_trichotomy i' i with z | z | z
      · exact absurd ((ro i' i0' i1').mpr (good i' i0' z)) bad'
      · exact z
      · exact absurd ((ro i i0 i1).mp (good' i i0 z)) bad
    subst e1
    refine ⟨by rw [hv', hv, ei], h.kp ⟨fun c hc => d0 c (by omega) (by omega), by rw [d0 0 (by decide) (by decide)], by rw [d0 0 (by decide) (by decide)], by rw [d0 80 (by decide) (by decide)], by rw [d0 80 (by decide) (by decide)], by rw [d0 80 (by decide) (by decide)]⟩ (h.2.1.of (d0 3 (by decide) (by decide)) (d0 4 (by decide) (by decide)) (d0 5 (by decide) (by decide)) (d0 6 (by decide) (by decide)) d1)⟩
  · exact absurd ((ro i i0 i1).mp (good' i i0 i1)) bad
  · exact absurd ((ro i' i0' i1').mpr (good i' i0' i1')) bad'
  · have g6 : M2 6 = rdF (M 79) f (M 6) wh.toNat := by rw [d0 6 (by decide) (by decide) (by decide), e1, wr_n _ _ _ (by decide), sc_s]
    have gc : ∀ c, c ≠ 0 → c ≠ 6 → c ≠ 80 → c ≠ 81 → c ≠ 84 → M2 c = M c := fun c k1 k2 k3 k4 k5 => by rw [d0 c k3 k4 k5]; exact ec c k1 k2
    have gz : ∀ c, (1 ≤ c ∧ c < 80 ∧ c ≠ 6) ∨ c = 82 ∨ c = 83 ∨ 85 ≤ c → M2 c = M c := fun c hc => gc c (by omega) (by omega) (by omega) (by omega) (by omega)
    have m0 : M2 0 = upI (M 0) 9 (if wh = n then 0 else faZ l (M 78 1)) := by rw [d0 0 (by decide) (by decide) (by decide), e1, wr_s, sc_n _ _ (by decide)]
    have m80 : M2 80 = upI (M 80) 25 (if wh = n then 0 else faZ l (M 78 1)) := by rw [d80, ec 80 (by decide) (by decide)]
    have rc := rdF_cg (f := f) (row := fun j => M 97 (40 * 3 + j)) (row' := M 79) c3 wh.toNat (fun j j0 j1 => row j j0 (by omega))
    refine ⟨by rw [hv', hv], h.1.of (gz 1 (by omega)) (gz 2 (by omega)) (by rw [m80, up_n _ _ (by decide)]) (gz 86 (by omega)), PkR.mk (pkm_3 ?_) ?_ ?_, ⟨by rw [m80, m0, up_n _ _ (by decide), up_n _ _ (by decide)]; exact h.2.2.1.1, by rw [m80, m0, up_s, up_s]⟩, ⟨h.2.2.2.1.1.of (gz 25 (by omega)) (gz 83 (by omega)) (gz 82 (by omega)) (gz 13 (by omega)) (gz 14 (by omega)) (gz 15 (by omega)) (gz 16 (by omega)), h.2.2.2.1.2.of (gz 25 (by omega)) (gz 83 (by omega)) (gz 82 (by omega)) (gz 18 (by omega)) (gz 19 (by omega)) (gz 20 (by omega)) (gz 21 (by omega))⟩, h.2.2.2.2.of (fun c hc => gz c (by omega))⟩
    · rw [gz 3 (by omega), gz 4 (by omega), gz 5 (by omega), g6]
      refine ⟨n0, n1, k0, k1, f0, f1, r0, r1, s0, s1, fun i i0 i1 => ?_⟩
      have := hP i i0 i1
      have := rdF_b (f := f) (row := M 79) (h := M 6) (n := M 3 4) (k := M 3 5) (fun i i0 i1 => by have := hP i i0 i1; omega) wh.toNat (fun j j0 j1 => good j j0 (by omega)) i i0 i1
      omega
    · rw [gz 3 (by omega), dl 0 (by omega), dl 1 (by omega), dl 2 (by omega), dl 3 (by omega), dl 4 (by omega)]
      exact ⟨a0, a1, a2, a3, a4⟩
    · rw [gz 3 (by omega), gz 4 (by omega), gz 5 (by omega), g6]
      intro i i0 i1
      obtain ⟨b4, b5, b6⟩ := hA i i0 i1
      refine ⟨by rw [dl _ (by omega)]; exact b4, by rw [dl _ (by omega)]; exact b5, ?_⟩
      rw [dg i i0]
      exact rc i i0 i1
theorem ag_sheet {M : Mem} (h : INV M) {x l n : Int} (hx : inR x) (hl : inR l) (hn : inR n) : Agr 84 187 [.inl x, .inl l, .inl n] M := by
  by_cases g : (0 ≤ x ∧ x < 4) ∧ (0 ≤ l ∧ l < 3) ∧ n ≤ 40 ∧ 0 ≤ n
  · rcases (show x = 0 ∨ x = 1 ∨ x = 2 ∨ x = 3 by omega) with rfl | rfl | rfl | rfl
    · exact ag_sheet_0 h g.2.1.1 g.2.1.2 g.2.2.1 g.2.2.2
    · exact ag_sheet_1 h g.2.1.1 g.2.1.2 g.2.2.1 g.2.2.2
    · exact ag_sheet_2 h g.2.1.1 g.2.1.2 g.2.2.1 g.2.2.2
    · exact ag_sheet_3 h g.2.1.1 g.2.1.2 g.2.2.1 g.2.2.2
  · refine (c_sheet_x 38 M x l n hx hl hn g).imp fun v M1 ⟨hv, e1⟩ => ?_
    subst e1
    refine (cm_sheet 38 M1 x l n hx hl hn).imp fun v' M2 hv' => ?_
    obtain ⟨-, hw, e2⟩ := hv'.resolve_right (fun z => g z.1)
    clear hv'
    subst e2
    exact ⟨by rw [hw, hv], h⟩
theorem ag_lay {M : Mem} (h : INV M) {x i v : Int} (hx : inR x) (hi : inR i) (hv : inR v) : Agr 85 188 [.inl x, .inl i, .inl v] M := by
  by_cases g : 0 ≤ x ∧ x < 4
  · rcases (show x = 0 ∨ x = 1 ∨ x = 2 ∨ x = 3 by omega) with rfl | rfl | rfl | rfl
    · exact ag_lay_0 h hi hv
    · exact ag_lay_1 h hi hv
    · exact ag_lay_2 h hi hv
    · exact ag_lay_3 h hi hv
  · refine (c_lay_x 38 M x i v hx g).imp fun w M1 ⟨hw, e1⟩ => ?_
    subst e1
    refine (cm_lay 38 M1 h.sl x i v hx hi).imp fun w' M2 hv' => ?_
    obtain ⟨-, hw', e2⟩ := hv'.resolve_right (fun z => z.elim (fun z => g z.1) (fun z => z.elim (fun z => g z.1) (fun z => g z.1)))
    clear hv'
    subst e2
    exact ⟨by rw [hw', hw], h⟩
theorem ag_read {M : Mem} (h : INV M) {x l f n : Int} (hx : inR x) (hl : inR l) (hf : inR f) (hn : inR n) : Agr 86 189 [.inl x, .inl l, .inl f, .inl n] M := by
  by_cases g : (0 ≤ x ∧ x < 4) ∧ (0 ≤ l ∧ l < 3) ∧ 0 ≤ n ∧ n ≤ 20
  · rcases (show x = 0 ∨ x = 1 ∨ x = 2 ∨ x = 3 by omega) with rfl | rfl | rfl | rfl
    · exact ag_read_0 h g.2.1.1 g.2.1.2 hf g.2.2.1 g.2.2.2
    · exact ag_read_1 h g.2.1.1 g.2.1.2 hf g.2.2.1 g.2.2.2
    · exact ag_read_2 h g.2.1.1 g.2.1.2 hf g.2.2.1 g.2.2.2
    · exact ag_read_3 h g.2.1.1 g.2.1.2 hf g.2.2.1 g.2.2.2
  · refine (c_read_x 35 M x l f n hx hl hn g).imp fun w M1 ⟨hw, e1⟩ => ?_
    subst e1
    refine Cl.imp (cm_read 37 M1 h.md h.sl h.sr x l f n hx hl hf hn) fun r M2 hr => ?_
    obtain ⟨-, hr, e2⟩ := hr.resolve_right (fun z => g z.1)
    exact ⟨_, hr, hw.symm, by rw [e2]; exact h⟩
