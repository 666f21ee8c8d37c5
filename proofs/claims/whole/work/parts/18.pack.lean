/-! a pack: cells, groups, rules -/
def PkI (p : Nat) (M : Mem) : Prop := 0 ≤ M p 4 ∧ M p 4 ≤ 16 ∧ 2 ≤ M p 5 ∧ M p 5 ≤ 5 ∧ 0 ≤ M p 6 ∧ M p 6 ≤ 999 ∧ 1 ≤ M p 7 ∧ M p 7 ≤ 99 ∧ 0 ≤ M p 8 ∧ M p 8 ≤ 99 ∧ ∀ i, 0 ≤ i → i < M p 4 → 1 ≤ M (p + 1) i ∧ M (p + 1) i ≤ 999 ∧ 0 ≤ M (p + 2) i ∧ M (p + 2) i ≤ 999 ∧ 0 ≤ M (p + 3) i ∧ M (p + 3) i < M p 5
theorem PkI.of {p : Nat} {M M' : Mem} (h : PkI p M) (e0 : M' p = M p) (e1 : M' (p + 1) = M (p + 1)) (e2 : M' (p + 2) = M (p + 2)) (e3 : M' (p + 3) = M (p + 3)) : PkI p M' := by
  unfold PkI
  rw [e0, e1, e2, e3]
  exact h
/-- the sum of a group, by what the cells have; by charges -/
def SG (p : Nat) (M : Mem) (g : Int) : Int := sumG (M (p + 2)) (M (p + 3)) (M p 4) g
def SC (p : Nat) (M : Mem) (g : Int) : Int := sumG (M (p + 1)) (M (p + 3)) (M p 4) g
theorem SG_b {p : Nat} {M : Mem} (h : PkI p M) (g : Int) : 0 ≤ SG p M g ∧ SG p M g ≤ 15984 := by
  have := sumG_b (v := M (p + 2)) (h := M (p + 3)) (n := M p 4) 999 g h.2.1 (by omega) (fun i h0 h1 => by have := h.2.2.2.2.2.2.2.2.2.2 i h0 h1; omega)
  unfold SG
  omega
theorem SC_b {p : Nat} {M : Mem} (h : PkI p M) (g : Int) : 0 ≤ SC p M g ∧ SC p M g ≤ 15984 := by
  have := sumG_b (v := M (p + 1)) (h := M (p + 3)) (n := M p 4) 999 g h.2.1 (by omega) (fun i h0 h1 => by have := h.2.2.2.2.2.2.2.2.2.2 i h0 h1; omega)
  unfold SC
  omega
/-- only the sums have changed, and they are the groups' -/
def SmP (p : Nat) (M M' : Mem) : Prop := (∀ c, c ≠ p + 4 → M' c = M c) ∧ ∀ g, 0 ≤ g → g < 5 → M' (p + 4) g = SG p M g
theorem SmP.SG {p : Nat} {M M' : Mem} (h : SmP p M M') : SG p M' = SG p M := by
  funext g
  unfold _root_.Jvm.Pilot.CCellPacksLaw_law_r2141_cac9e1.SG
  rw [h.1 p (by omega), h.1 (p + 2) (by omega), h.1 (p + 3) (by omega)]
theorem SmP.I {p : Nat} {M M' : Mem} (h : SmP p M M') (q : PkI p M) : PkI p M' := q.of (h.1 p (by omega)) (h.1 (p + 1) (by omega)) (h.1 (p + 2) (by omega)) (h.1 (p + 3) (by omega))
theorem SmP.tr {p : Nat} {M M' M'' : Mem} (h : SmP p M M') (q : ∀ c, c ≠ p + 4 → M'' c = M' c) (g : ∀ g, 0 ≤ g → g < 5 → M'' (p + 4) g = _root_.Jvm.Pilot.CCellPacksLaw_law_r2141_cac9e1.SG p M g) : SmP p M M'' := ⟨fun c hc => (q c hc).trans (h.1 c hc), g⟩
def lsZ (s : Int → Int) (k : Int) : Int := s (flZ s k)
theorem lsZ_cg {s s' : Int → Int} {k : Int} (hk : 1 ≤ k) (h : ∀ g, 0 ≤ g → g < k → s g = s' g) : lsZ s k = lsZ s' k := by
  have b := flZ_b s' hk
  unfold lsZ
  rw [flZ_cg hk h, h _ b.1 b.2]
/-- how many cells are ahead of cell i by charge -/
def rkZ (ch : Int → Int) (n i : Int) : Int := sumZ (fun j => if ch i < ch j ∨ (ch j = ch i ∧ j < i) then 1 else 0) n
/-- the cell of group g that has most -/
def stN (home has : Int → Int) (g : Int) : Nat → Int
  | 0 => -4
  | n + 1 => if home n = g ∧ (stN home has g n = -4 ∨ has (stN home has g n) < has n) then n else stN home has g n
def stZ (home has : Int → Int) (n g : Int) : Int := stN home has g n.toNat
theorem stZ_0 (home has : Int → Int) (g : Int) : stZ home has 0 g = -4 := rfl
theorem stZ_s (home has : Int → Int) (g : Int) {i : Int} (h : 0 ≤ i) : stZ home has (i + 1) g = if home i = g ∧ (stZ home has i g = -4 ∨ has (stZ home has i g) < has i) then i else stZ home has i g := by
  obtain ⟨n, rfl⟩ := Int.eq_ofNat_of_zero_le h
  rfl
theorem stN_b (home has : Int → Int) (g : Int) : ∀ n : Nat, stN home has g n = -4 ∨ (0 ≤ stN home has g n ∧ stN home has g n < n ∧ home (stN home has g n) = g)
  | 0 => Or.inl rfl
  | n + 1 => by
    have := stN_b home has g n
    unfold stN
    split
    · rename_i h
      exact Or.inr ⟨by omega, by omega, h.1⟩
    · rcases this with h | h
      · exact Or.inl h
      · exact Or.inr ⟨h.1, by omega, h.2.2⟩
theorem stZ_b (home has : Int → Int) {n : Int} (g : Int) (hn : 0 ≤ n) : stZ home has n g = -4 ∨ (0 ≤ stZ home has n g ∧ stZ home has n g < n ∧ home (stZ home has n g) = g) := by
  have := stN_b home has g n.toNat
  unfold stZ
  omega
/-- bits of the cells of group g -/
def btZ (home : Int → Int) (n g : Int) : Int := sumZ (fun i => if home i = g then 2 ^ i.toNat else 0) n
def ctZ (home : Int → Int) (n g : Int) : Int := sumZ (fun i => if home i = g then 1 else 0) n
/-- what the cells of group g have above the floor -/
def abZ (home has : Int → Int) (fl n g : Int) : Int := sumZ (fun i => if home i = g then (if 0 < has i - fl then has i - fl else 0) else 0) n
def blZ (has ch : Int → Int) (n : Int) : Int := sumZ (fun i => if has i < ch i then 1 else 0) n
def gcN (ch : Int → Int) : Nat → Int
  | 0 => -4
  | n + 1 => if gcN ch n < ch n then ch n else gcN ch n
def gcZ (ch : Int → Int) (n : Int) : Int := gcN ch n.toNat
theorem gcZ_s (ch : Int → Int) {i : Int} (h : 0 ≤ i) : gcZ ch (i + 1) = if gcZ ch i < ch i then ch i else gcZ ch i := by
  obtain ⟨n, rfl⟩ := Int.eq_ofNat_of_zero_le h
  rfl
theorem gcN_b {ch : Int → Int} : ∀ n : Nat, (∀ i : Int, 0 ≤ i → i < n → ch i ≤ 999) → -4 ≤ gcN ch n ∧ gcN ch n ≤ 999
  | 0, _ => ⟨Int.le_refl _, by show (-4 : Int) ≤ 999; omega⟩
  | n + 1, h => by
    have h1 := gcN_b n (fun i h0 h1 => h i h0 (by omega))
    have h2 := h n (by omega) (by omega)
    unfold gcN
    split <;> omega
theorem gcZ_b {ch : Int → Int} {n : Int} (h : ∀ i, 0 ≤ i → i < n → ch i ≤ 999) : -4 ≤ gcZ ch n ∧ gcZ ch n ≤ 999 := gcN_b _ (fun i h0 h1 => h i h0 (by omega))
theorem gcN_cg {f g : Int → Int} : ∀ n : Nat, (∀ i : Int, 0 ≤ i → i < n → f i = g i) → gcN f n = gcN g n
  | 0, _ => rfl
  | n + 1, h => by rw [gcN, gcN, gcN_cg n (fun i h0 h1 => h i h0 (by omega)), h n (by omega) (by omega)]
theorem gcZ_cg {f g : Int → Int} {n : Int} (h : ∀ i, 0 ≤ i → i < n → f i = g i) : gcZ f n = gcZ g n := gcN_cg _ (fun i h0 h1 => h i h0 (by omega))
theorem stN_cg {h h' a a' : Int → Int} {g : Int} : ∀ n : Nat, (∀ i : Int, 0 ≤ i → i < n → h i = h' i ∧ a i = a' i) → stN h a g n = stN h' a' g n
  | 0, _ => rfl
  | n + 1, q => by
    have ih := stN_cg (g := g) n (fun i h0 h1 => q i h0 (by omega))
    have b := stN_b h' a' g n
    rw [stN, stN, ih, (q n (by omega) (by omega)).1, (q n (by omega) (by omega)).2]
    rcases b with b | b
    · rw [b]
      simp
    · rw [(q _ b.1 (by omega)).2]
theorem stZ_cg {h h' a a' : Int → Int} {n g : Int} (q : ∀ i, 0 ≤ i → i < n → h i = h' i ∧ a i = a' i) : stZ h a n g = stZ h' a' n g := stN_cg _ (fun i h0 h1 => q i h0 (by omega))
theorem pkd_3 {M : Mem} (h : PkI 3 M) : 0 ≤ M 3 4 ∧ M 3 4 ≤ 16 ∧ 2 ≤ M 3 5 ∧ M 3 5 ≤ 5 ∧ 0 ≤ M 3 6 ∧ M 3 6 ≤ 999 ∧ 1 ≤ M 3 7 ∧ M 3 7 ≤ 99 ∧ 0 ≤ M 3 8 ∧ M 3 8 ≤ 99 ∧ ∀ i, 0 ≤ i → i < M 3 4 → 1 ≤ M 4 i ∧ M 4 i ≤ 999 ∧ 0 ≤ M 5 i ∧ M 5 i ≤ 999 ∧ 0 ≤ M 6 i ∧ M 6 i < M 3 5 := h
theorem pkd_8 {M : Mem} (h : PkI 8 M) : 0 ≤ M 8 4 ∧ M 8 4 ≤ 16 ∧ 2 ≤ M 8 5 ∧ M 8 5 ≤ 5 ∧ 0 ≤ M 8 6 ∧ M 8 6 ≤ 999 ∧ 1 ≤ M 8 7 ∧ M 8 7 ≤ 99 ∧ 0 ≤ M 8 8 ∧ M 8 8 ≤ 99 ∧ ∀ i, 0 ≤ i → i < M 8 4 → 1 ≤ M 9 i ∧ M 9 i ≤ 999 ∧ 0 ≤ M 10 i ∧ M 10 i ≤ 999 ∧ 0 ≤ M 11 i ∧ M 11 i < M 8 5 := h
theorem pkd_13 {M : Mem} (h : PkI 13 M) : 0 ≤ M 13 4 ∧ M 13 4 ≤ 16 ∧ 2 ≤ M 13 5 ∧ M 13 5 ≤ 5 ∧ 0 ≤ M 13 6 ∧ M 13 6 ≤ 999 ∧ 1 ≤ M 13 7 ∧ M 13 7 ≤ 99 ∧ 0 ≤ M 13 8 ∧ M 13 8 ≤ 99 ∧ ∀ i, 0 ≤ i → i < M 13 4 → 1 ≤ M 14 i ∧ M 14 i ≤ 999 ∧ 0 ≤ M 15 i ∧ M 15 i ≤ 999 ∧ 0 ≤ M 16 i ∧ M 16 i < M 13 5 := h
theorem pkd_18 {M : Mem} (h : PkI 18 M) : 0 ≤ M 18 4 ∧ M 18 4 ≤ 16 ∧ 2 ≤ M 18 5 ∧ M 18 5 ≤ 5 ∧ 0 ≤ M 18 6 ∧ M 18 6 ≤ 999 ∧ 1 ≤ M 18 7 ∧ M 18 7 ≤ 99 ∧ 0 ≤ M 18 8 ∧ M 18 8 ≤ 99 ∧ ∀ i, 0 ≤ i → i < M 18 4 → 1 ≤ M 19 i ∧ M 19 i ≤ 999 ∧ 0 ≤ M 20 i ∧ M 20 i ≤ 999 ∧ 0 ≤ M 21 i ∧ M 21 i < M 18 5 := h
def SmPc (p : Nat) (M M' : Mem) : Prop := (∀ c, c ≠ p + 4 → M' c = M c) ∧ ∀ g, 0 ≤ g → g < 5 → M' (p + 4) g = SC p M g
theorem SmPc.I {p : Nat} {M M' : Mem} (h : SmPc p M M') (q : PkI p M) : PkI p M' := q.of (h.1 p (by omega)) (h.1 (p + 1) (by omega)) (h.1 (p + 2) (by omega)) (h.1 (p + 3) (by omega))
set_option maxHeartbeats 4000000 in
set_option maxRecDepth 20000 in
theorem c_sumOf_3 (D : Nat) (M : Mem) (hI : PkI 3 M) (g : Int) (h0 : 0 ≤ g) (h1 : g < M 3 5) : CI (D + 2) 17 [.inr (.inr 3), .inl g] M (fun v M' => v = SG 3 M g ∧ SmP 3 M M') := by
  refine mk_C mt_17 rfl (Nat.le_of_ble_eq_true rfl) (L := [some _, some _]) rfl ?_
  have hI := hI
  obtain ⟨n0, n1, k0, k1, f0, f1, r0, r1, s0, s1, hA⟩ := pkd_3 hI
  refine w_aload_n ta_17 rfl rfl ?_
  refine w_getR ta_17 rfl rfl ?_
  refine w_aload_n ta_17 rfl rfl ?_
  refine w_getR ta_17 rfl rfl ?_
  refine w_aload_n ta_17 rfl rfl ?_
  refine w_getI 4 ta_17 rfl rfl rfl ?_
  refine w_aload_n ta_17 rfl rfl ?_
  refine w_getR ta_17 rfl rfl ?_
  refine w_cV [_, _, _, _] _ ta_17 rfl rfl rfl mt_102 rfl rfl rfl rfl (Nat.le_of_ble_eq_true rfl) (fun q => by cases q) rfl (c_sumUp _ 5 6 7 5 16 16 (M 3 4) M rfl rfl rfl (by decide) (by decide) (by decide) (by decide) (by decide) (by omega) (by omega) (fun i h0 h1 => by have := hA i h0 h1; omega) n0) ?_
  rintro M1 hM1
  have hS : SmP 3 M M1 := ⟨fun c hc => by rw [hM1, sc_n _ _ hc], fun g h0 h1 => by rw [hM1, sc_s]; exact smF_at h0 h1⟩
  have hI1 := hS.I hI
  refine w_aload_n ta_17 rfl rfl ?_
  refine w_getR ta_17 rfl rfl ?_
  refine w_iload_n ta_17 rfl rfl ?_
  refine w_iaload ta_17 rfl rfl (by omega) (by omega) (by omega) ?_
  refine w_iret ta_17 rfl (Or.inl rfl) ?_
  exact ⟨_, rfl, hS.2 g h0 (by omega), hS⟩
set_option maxHeartbeats 4000000 in
set_option maxRecDepth 20000 in
theorem c_weakest_3 (D : Nat) (M : Mem) (hI : PkI 3 M) : CI (D + 2) 18 [.inr (.inr 3)] M (fun v M' => v = flZ (SG 3 M) (M 3 5) ∧ SmP 3 M M') := by
  refine mk_C mt_18 rfl (Nat.le_of_ble_eq_true rfl) (L := [some _]) rfl ?_
  obtain ⟨n0, n1, k0, k1, f0, f1, r0, r1, s0, s1, hA⟩ := pkd_3 hI
  refine w_aload_n ta_18 rfl rfl ?_
  refine w_getR ta_18 rfl rfl ?_
  refine w_aload_n ta_18 rfl rfl ?_
  refine w_getR ta_18 rfl rfl ?_
  refine w_aload_n ta_18 rfl rfl ?_
  refine w_getI 4 ta_18 rfl rfl rfl ?_
  refine w_aload_n ta_18 rfl rfl ?_
  refine w_getR ta_18 rfl rfl ?_
  refine w_cV [_, _, _, _] _ ta_18 rfl rfl rfl mt_102 rfl rfl rfl rfl (Nat.le_of_ble_eq_true rfl) (fun q => by cases q) rfl (c_sumUp _ 5 6 7 5 16 16 (M 3 4) M rfl rfl rfl (by decide) (by decide) (by decide) (by decide) (by decide) (by omega) (by omega) (fun i h0 h1 => by have := hA i h0 h1; omega) n0) ?_
  rintro M1 hM1
  have hS : SmP 3 M M1 := ⟨fun c hc => by rw [hM1, sc_n _ _ hc], fun g h0 h1 => by rw [hM1, sc_s]; exact smF_at h0 h1⟩
  have hI1 := hS.I hI
  obtain ⟨n0x, n1x, k0x, k1x, f0x, f1x, r0x, r1x, s0x, s1x, hAx⟩ := pkd_3 hI1
  refine w_aload_n ta_18 rfl rfl ?_
  refine w_getR ta_18 rfl rfl ?_
  refine w_aload_n ta_18 rfl rfl ?_
  refine w_getI 5 ta_18 rfl rfl rfl ?_
  refine w_cI [_, _] _ ta_18 rfl rfl rfl mt_103 rfl rfl rfl rfl (Nat.le_of_ble_eq_true rfl) (fun q => by cases q) rfl (c_firstLeast _ 7 5 (M1 3 5) M1 rfl (by decide) (by omega) (fun g h0 h1 => by have := SG_b hI g; rw [hS.2 g h0 (by omega)]; constructor <;> omega) (by omega)) ?_
  rintro v M2 ⟨hv, rfl⟩
  refine w_iret ta_18 rfl (Or.inl rfl) ?_
  exact ⟨_, rfl, by rw [hv, hS.1 3 (by decide)]; exact flZ_cg (by omega) (fun g h0 h1 => hS.2 g h0 (by omega)), hS⟩
set_option maxHeartbeats 4000000 in
set_option maxRecDepth 20000 in
theorem c_leastSum_3 (D : Nat) (M : Mem) (hI : PkI 3 M) : CI (D + 3) 19 [.inr (.inr 3)] M (fun v M' => v = lsZ (SG 3 M) (M 3 5) ∧ SmP 3 M M') := by
  refine mk_C mt_19 rfl (Nat.le_of_ble_eq_true rfl) (L := [some _]) rfl ?_
  obtain ⟨n0, n1, k0, k1, f0, f1, r0, r1, s0, s1, hA⟩ := pkd_3 hI
  refine w_aload_n ta_19 rfl rfl ?_
  refine w_getR ta_19 rfl rfl ?_
  refine w_aload_n ta_19 rfl rfl ?_
  refine w_cI [_] _ ta_19 rfl rfl rfl mt_18 rfl rfl rfl rfl (Nat.le_of_ble_eq_true rfl) (fun _ => rfl) rfl (c_weakest_3 _ M hI) ?_
  rintro v M1 ⟨rfl, hS⟩
  have b := flZ_b (SG 3 M) (k := M 3 5) (by omega)
  refine w_iaload ta_19 rfl rfl (by omega) (by omega) (by omega) ?_
  refine w_iret ta_19 rfl (Or.inl rfl) ?_
  exact ⟨_, rfl, hS.2 _ b.1 (by omega), hS⟩
set_option maxHeartbeats 4000000 in
set_option maxRecDepth 20000 in
theorem c_spread_3 (D : Nat) (M : Mem) (hI : PkI 3 M) : CI (D + 5) 21 [.inr (.inr 3)] M (fun v M' => v = grZ (SG 3 M) (M 3 5) - lsZ (SG 3 M) (M 3 5) ∧ SmP 3 M M') := by
  refine mk_C mt_21 rfl (Nat.le_of_ble_eq_true rfl) (L := [some _, none]) rfl ?_
  obtain ⟨n0, n1, k0, k1, f0, f1, r0, r1, s0, s1, hA⟩ := pkd_3 hI
  refine w_aload_n ta_21 rfl rfl ?_
  refine w_cI [_] _ ta_21 rfl rfl rfl mt_19 rfl rfl rfl rfl (Nat.le_of_ble_eq_true rfl) (fun _ => rfl) rfl (c_leastSum_3 _ M hI) ?_
  rintro v M1 ⟨rfl, hS⟩
  have hI1 := hS.I hI
  obtain ⟨n0x, n1x, k0x, k1x, f0x, f1x, r0x, r1x, s0x, s1x, hAx⟩ := pkd_3 hI1
  refine w_istn_1_2 ta_21 rfl rfl ?_
  refine w_aload_n ta_21 rfl rfl ?_
  refine w_getR ta_21 rfl rfl ?_
  refine w_aload_n ta_21 rfl rfl ?_
  refine w_getI 5 ta_21 rfl rfl rfl ?_
  refine w_cI [_, _] _ ta_21 rfl rfl rfl mt_104 rfl rfl rfl rfl (Nat.le_of_ble_eq_true rfl) (fun q => by cases q) rfl (c_greatest _ 7 5 (M1 3 5) M1 rfl (by decide) (by omega) (fun g h0 h1 => by have := SG_b hI g; rw [hS.2 g h0 (by omega)]; constructor <;> omega) (by omega)) ?_
  rintro v M2 ⟨hv, rfl⟩
  refine w_iload_n ta_21 rfl rfl ?_
  refine w_isub ta_21 rfl ?_
  refine w_iret ta_21 rfl (Or.inl rfl) ?_
  exact ⟨_, rfl, by rw [hv, hS.1 3 (by decide), grZ_cg (s' := SG 3 M) (by omega) (fun g h0 h1 => hS.2 g h0 (by omega))], hS⟩
set_option maxHeartbeats 4000000 in
set_option maxRecDepth 20000 in
theorem c_weakest_8 (D : Nat) (M : Mem) (hI : PkI 8 M) : CI (D + 2) 18 [.inr (.inr 8)] M (fun v M' => v = flZ (SG 8 M) (M 8 5) ∧ SmP 8 M M') := by
  refine mk_C mt_18 rfl (Nat.le_of_ble_eq_true rfl) (L := [some _]) rfl ?_
  obtain ⟨n0, n1, k0, k1, f0, f1, r0, r1, s0, s1, hA⟩ := pkd_8 hI
  refine w_aload_n ta_18 rfl rfl ?_
  refine w_getR ta_18 rfl rfl ?_
  refine w_aload_n ta_18 rfl rfl ?_
  refine w_getR ta_18 rfl rfl ?_
  refine w_aload_n ta_18 rfl rfl ?_
  refine w_getI 4 ta_18 rfl rfl rfl ?_
  refine w_aload_n ta_18 rfl rfl ?_
  refine w_getR ta_18 rfl rfl ?_
  refine w_cV [_, _, _, _] _ ta_18 rfl rfl rfl mt_102 rfl rfl rfl rfl (Nat.le_of_ble_eq_true rfl) (fun q => by cases q) rfl (c_sumUp _ 10 11 12 5 16 16 (M 8 4) M rfl rfl rfl (by decide) (by decide) (by decide) (by decide) (by decide) (by omega) (by omega) (fun i h0 h1 => by have := hA i h0 h1; omega) n0) ?_
  rintro M1 hM1
  have hS : SmP 8 M M1 := ⟨fun c hc => by rw [hM1, sc_n _ _ hc], fun g h0 h1 => by rw [hM1, sc_s]; exact smF_at h0 h1⟩
  have hI1 := hS.I hI
  obtain ⟨n0x, n1x, k0x, k1x, f0x, f1x, r0x, r1x, s0x, s1x, hAx⟩ := pkd_8 hI1
  refine w_aload_n ta_18 rfl rfl ?_
  refine w_getR ta_18 rfl rfl ?_
  refine w_aload_n ta_18 rfl rfl ?_
  refine w_getI 5 ta_18 rfl rfl rfl ?_
  refine w_cI [_, _] _ ta_18 rfl rfl rfl mt_103 rfl rfl rfl rfl (Nat.le_of_ble_eq_true rfl) (fun q => by cases q) rfl (c_firstLeast _ 12 5 (M1 8 5) M1 rfl (by decide) (by omega) (fun g h0 h1 => by have := SG_b hI g; rw [hS.2 g h0 (by omega)]; constructor <;> omega) (by omega)) ?_
  rintro v M2 ⟨hv, rfl⟩
  refine w_iret ta_18 rfl (Or.inl rfl) ?_
  exact ⟨_, rfl, by rw [hv, hS.1 8 (by decide)]; exact flZ_cg (by omega) (fun g h0 h1 => hS.2 g h0 (by omega)), hS⟩
set_option maxHeartbeats 4000000 in
set_option maxRecDepth 20000 in
theorem c_leastSum_8 (D : Nat) (M : Mem) (hI : PkI 8 M) : CI (D + 3) 19 [.inr (.inr 8)] M (fun v M' => v = lsZ (SG 8 M) (M 8 5) ∧ SmP 8 M M') := by
  refine mk_C mt_19 rfl (Nat.le_of_ble_eq_true rfl) (L := [some _]) rfl ?_
  obtain ⟨n0, n1, k0, k1, f0, f1, r0, r1, s0, s1, hA⟩ := pkd_8 hI
  refine w_aload_n ta_19 rfl rfl ?_
  refine w_getR ta_19 rfl rfl ?_
  refine w_aload_n ta_19 rfl rfl ?_
  refine w_cI [_] _ ta_19 rfl rfl rfl mt_18 rfl rfl rfl rfl (Nat.le_of_ble_eq_true rfl) (fun _ => rfl) rfl (c_weakest_8 _ M hI) ?_
  rintro v M1 ⟨rfl, hS⟩
  have b := flZ_b (SG 8 M) (k := M 8 5) (by omega)
  refine w_iaload ta_19 rfl rfl (by omega) (by omega) (by omega) ?_
  refine w_iret ta_19 rfl (Or.inl rfl) ?_
  exact ⟨_, rfl, hS.2 _ b.1 (by omega), hS⟩
set_option maxHeartbeats 4000000 in
set_option maxRecDepth 20000 in
theorem c_spread_8 (D : Nat) (M : Mem) (hI : PkI 8 M) : CI (D + 5) 21 [.inr (.inr 8)] M (fun v M' => v = grZ (SG 8 M) (M 8 5) - lsZ (SG 8 M) (M 8 5) ∧ SmP 8 M M') := by
  refine mk_C mt_21 rfl (Nat.le_of_ble_eq_true rfl) (L := [some _, none]) rfl ?_
  obtain ⟨n0, n1, k0, k1, f0, f1, r0, r1, s0, s1, hA⟩ := pkd_8 hI
  refine w_aload_n ta_21 rfl rfl ?_
  refine w_cI [_] _ ta_21 rfl rfl rfl mt_19 rfl rfl rfl rfl (Nat.le_of_ble_eq_true rfl) (fun _ => rfl) rfl (c_leastSum_8 _ M hI) ?_
  rintro v M1 ⟨rfl, hS⟩
  have hI1 := hS.I hI
  obtain ⟨n0x, n1x, k0x, k1x, f0x, f1x, r0x, r1x, s0x, s1x, hAx⟩ := pkd_8 hI1
  refine w_istn_1_2 ta_21 rfl rfl ?_
  refine w_aload_n ta_21 rfl rfl ?_
  refine w_getR ta_21 rfl rfl ?_
  refine w_aload_n ta_21 rfl rfl ?_
  refine w_getI 5 ta_21 rfl rfl rfl ?_
  refine w_cI [_, _] _ ta_21 rfl rfl rfl mt_104 rfl rfl rfl rfl (Nat.le_of_ble_eq_true rfl) (fun q => by cases q) rfl (c_greatest _ 12 5 (M1 8 5) M1 rfl (by decide) (by omega) (fun g h0 h1 => by have := SG_b hI g; rw [hS.2 g h0 (by omega)]; constructor <;> omega) (by omega)) ?_
  rintro v M2 ⟨hv, rfl⟩
  refine w_iload_n ta_21 rfl rfl ?_
  refine w_isub ta_21 rfl ?_
  refine w_iret ta_21 rfl (Or.inl rfl) ?_
  exact ⟨_, rfl, by rw [hv, hS.1 8 (by decide), grZ_cg (s' := SG 8 M) (by omega) (fun g h0 h1 => hS.2 g h0 (by omega))], hS⟩
set_option maxHeartbeats 4000000 in
set_option maxRecDepth 20000 in
theorem c_leastSumOfCharges (D : Nat) (M : Mem) (hI : PkI 3 M) : CI (D + 2) 20 [.inr (.inr 3)] M (fun v M' => v = lsZ (SC 3 M) (M 3 5) ∧ SmPc 3 M M') := by
  refine mk_C mt_20 rfl (Nat.le_of_ble_eq_true rfl) (L := [some _]) rfl ?_
  obtain ⟨n0, n1, k0, k1, f0, f1, r0, r1, s0, s1, hA⟩ := pkd_3 hI
  refine w_aload_n ta_20 rfl rfl ?_
  refine w_getR ta_20 rfl rfl ?_
  refine w_aload_n ta_20 rfl rfl ?_
  refine w_getR ta_20 rfl rfl ?_
  refine w_aload_n ta_20 rfl rfl ?_
  refine w_getI 4 ta_20 rfl rfl rfl ?_
  refine w_aload_n ta_20 rfl rfl ?_
  refine w_getR ta_20 rfl rfl ?_
  refine w_cV [_, _, _, _] _ ta_20 rfl rfl rfl mt_102 rfl rfl rfl rfl (Nat.le_of_ble_eq_true rfl) (fun q => by cases q) rfl (c_sumUp _ 4 6 7 5 16 16 (M 3 4) M rfl rfl rfl (by decide) (by decide) (by decide) (by decide) (by decide) (by omega) (by omega) (fun i h0 h1 => by have := hA i h0 h1; omega) n0) ?_
  rintro M1 hM1
  have hS : SmPc 3 M M1 := ⟨fun c hc => by rw [hM1, sc_n _ _ hc], fun g h0 h1 => by rw [hM1, sc_s]; exact smF_at h0 h1⟩
  have hI1 := hS.I hI
  obtain ⟨n0x, n1x, k0x, k1x, f0x, f1x, r0x, r1x, s0x, s1x, hAx⟩ := pkd_3 hI1
  refine w_aload_n ta_20 rfl rfl ?_
  refine w_getR ta_20 rfl rfl ?_
  refine w_aload_n ta_20 rfl rfl ?_
  refine w_getR ta_20 rfl rfl ?_
  refine w_aload_n ta_20 rfl rfl ?_
  refine w_getI 5 ta_20 rfl rfl rfl ?_
  refine w_cI [_, _] _ ta_20 rfl rfl rfl mt_103 rfl rfl rfl rfl (Nat.le_of_ble_eq_true rfl) (fun q => by cases q) rfl (c_firstLeast _ 7 5 (M1 3 5) M1 rfl (by decide) (by omega) (fun g h0 h1 => by have := SC_b hI g; rw [hS.2 g h0 (by omega)]; constructor <;> omega) (by omega)) ?_
  rintro v M2 ⟨hv, rfl⟩
  rw [hS.1 3 (by decide), flZ_cg (s' := SC 3 M) (by omega) (fun g h0 h1 => hS.2 g h0 (by omega))] at hv
  have b := flZ_b (SC 3 M) (k := M 3 5) (by omega)
  refine w_iaload ta_20 rfl rfl (by omega) (by omega) (by omega) ?_
  refine w_iret ta_20 rfl (Or.inl rfl) ?_
  exact ⟨_, rfl, by rw [hv]; exact hS.2 _ b.1 (by omega), hS⟩
set_option maxHeartbeats 4000000 in
set_option maxRecDepth 20000 in
theorem lp_rank (D : Nat) (M : Mem) (hI : PkI 3 M) (x : Int) (x0 : 0 ≤ x) (x1 : x < M 3 4) : ∀ i : Int, 0 ≤ i → i ≤ M 3 4 → Wp (D) 23 (4, [some (.inr (.inr 3)), some (.inl x), some (.inl (sumZ (fun j => if M 4 x < M 4 j ∨ (M 4 j = M 4 x ∧ j < x) then 1 else 0) i)), some (.inl i)], [], M) (fun r M' => ∃ v, r = some (.inl v) ∧ (v = rkZ (M 4) (M 3 4) x ∧ M' = M)) := by
  obtain ⟨n0, n1, k0, k1, f0, f1, r0, r1, s0, s1, hA⟩ := pkd_3 hI
  refine loopZ (M 3 4) ?_
  intro i h0 h1 ih
  refine w_iload_n ta_23 rfl rfl ?_
  refine w_aload_n ta_23 rfl rfl ?_
  refine w_getI 4 ta_23 rfl rfl rfl ?_
  refine w_icmp_ge ta_23 rfl ⟨by omega, by omega⟩ ⟨by omega, by omega⟩ (fun h9 => ?_) (fun h9 => ?_)
  · refine w_iload_n ta_23 rfl rfl ?_
    refine w_iret ta_23 rfl (Or.inl rfl) ?_
    exact ⟨_, rfl, by rw [show i = M 3 4 by omega]; rfl, rfl⟩
  · have q := hA i h0 h9
    have q2 := hA x x0 x1
    have ih := ih h9
    rw [sumZ_s _ h0] at ih
    refine w_aload_n ta_23 rfl rfl ?_
    refine w_getR ta_23 rfl rfl ?_
    refine w_iload_n ta_23 rfl rfl ?_
    refine w_iaload ta_23 rfl rfl (by omega) (by omega) (by omega) ?_
    refine w_aload_n ta_23 rfl rfl ?_
    refine w_getR ta_23 rfl rfl ?_
    refine w_iload_n ta_23 rfl rfl ?_
    refine w_iaload ta_23 rfl rfl (by omega) (by omega) (by omega) ?_
    refine w_icmp_gt ta_23 rfl ⟨by omega, by omega⟩ ⟨by omega, by omega⟩ (fun h24 => ?_) (fun h24 => ?_)
    · refine w_iinc_2_4 ta_23 rfl rfl ?_
      refine w_iinc_3_4 ta_23 rfl rfl ?_
      refine w_goto ta_23 rfl ?_
      first
        | (rw [if_pos (by omega)] at ih; exact ih)
        | (rw [if_neg (by omega), Int.add_zero] at ih; exact ih)
    · refine w_aload_n ta_23 rfl rfl ?_
      refine w_getR ta_23 rfl rfl ?_
      refine w_iload_n ta_23 rfl rfl ?_
      refine w_iaload ta_23 rfl rfl (by omega) (by omega) (by omega) ?_
      refine w_aload_n ta_23 rfl rfl ?_
      refine w_getR ta_23 rfl rfl ?_
      refine w_iload_n ta_23 rfl rfl ?_
      refine w_iaload ta_23 rfl rfl (by omega) (by omega) (by omega) ?_
      refine w_icmp_ne ta_23 rfl ⟨by omega, by omega⟩ ⟨by omega, by omega⟩ (fun h39 => ?_) (fun h39 => ?_)
      · refine w_iinc_3_4 ta_23 rfl rfl ?_
        refine w_goto ta_23 rfl ?_
        first
          | (rw [if_pos (by omega)] at ih; exact ih)
          | (rw [if_neg (by omega), Int.add_zero] at ih; exact ih)
      · refine w_iload_n ta_23 rfl rfl ?_
        refine w_iload_n ta_23 rfl rfl ?_
        refine w_icmp_ge ta_23 rfl ⟨by omega, by omega⟩ ⟨by omega, by omega⟩ (fun h44 => ?_) (fun h44 => ?_)
        · refine w_iinc_3_4 ta_23 rfl rfl ?_
          refine w_goto ta_23 rfl ?_
          first
            | (rw [if_pos (by omega)] at ih; exact ih)
            | (rw [if_neg (by omega), Int.add_zero] at ih; exact ih)
        · refine w_iinc_2_4 ta_23 rfl rfl ?_
          refine w_iinc_3_4 ta_23 rfl rfl ?_
          refine w_goto ta_23 rfl ?_
          first
            | (rw [if_pos (by omega)] at ih; exact ih)
            | (rw [if_neg (by omega), Int.add_zero] at ih; exact ih)
set_option maxHeartbeats 4000000 in
set_option maxRecDepth 20000 in
theorem c_rank (D : Nat) (M : Mem) (hI : PkI 3 M) (x : Int) (x0 : 0 ≤ x) (x1 : x < M 3 4) : CI D 23 [.inr (.inr 3), .inl x] M (fun v M' => v = rkZ (M 4) (M 3 4) x ∧ M' = M) := by
  refine mk_C mt_23 rfl (Nat.le_of_ble_eq_true rfl) (L := [some _, some _, none, none]) rfl ?_
  refine w_iconst ta_23 rfl ?_
  refine w_istn_2_4 ta_23 rfl rfl ?_
  refine w_iconst ta_23 rfl ?_
  refine w_istn_3_4 ta_23 rfl rfl ?_
  exact lp_rank D M hI x x0 x1 0 (by omega) hI.1
set_option maxHeartbeats 4000000 in
set_option maxRecDepth 20000 in
theorem lp_bled (D : Nat) (M : Mem) (hI : PkI 3 M)  : ∀ i : Int, 0 ≤ i → i ≤ M 3 4 → Wp (D) 28 (4, [some (.inr (.inr 3)), some (.inl (sumZ (fun j => if M 5 j < M 4 j then 1 else 0) i)), some (.inl i)], [], M) (fun r M' => ∃ v, r = some (.inl v) ∧ (v = blZ (M 5) (M 4) (M 3 4) ∧ M' = M)) := by
  obtain ⟨n0, n1, k0, k1, f0, f1, r0, r1, s0, s1, hA⟩ := pkd_3 hI
  refine loopZ (M 3 4) ?_
  intro i h0 h1 ih
  refine w_iload_n ta_28 rfl rfl ?_
  refine w_aload_n ta_28 rfl rfl ?_
  refine w_getI 4 ta_28 rfl rfl rfl ?_
  refine w_icmp_ge ta_28 rfl ⟨by omega, by omega⟩ ⟨by omega, by omega⟩ (fun h9 => ?_) (fun h9 => ?_)
  · refine w_iload_n ta_28 rfl rfl ?_
    refine w_iret ta_28 rfl (Or.inl rfl) ?_
    exact ⟨_, rfl, by rw [show i = M 3 4 by omega]; rfl, rfl⟩
  · have q := hA i h0 h9
    have ih := ih h9
    rw [sumZ_s _ h0] at ih
    refine w_aload_n ta_28 rfl rfl ?_
    refine w_getR ta_28 rfl rfl ?_
    refine w_iload_n ta_28 rfl rfl ?_
    refine w_iaload ta_28 rfl rfl (by omega) (by omega) (by omega) ?_
    refine w_aload_n ta_28 rfl rfl ?_
    refine w_getR ta_28 rfl rfl ?_
    refine w_iload_n ta_28 rfl rfl ?_
    refine w_iaload ta_28 rfl rfl (by omega) (by omega) (by omega) ?_
    refine w_icmp_ge ta_28 rfl ⟨by omega, by omega⟩ ⟨by omega, by omega⟩ (fun h24 => ?_) (fun h24 => ?_)
    · refine w_iinc_2_3 ta_28 rfl rfl ?_
      refine w_goto ta_28 rfl ?_
      first
        | (rw [if_pos (by omega)] at ih; exact ih)
        | (rw [if_neg (by omega), Int.add_zero] at ih; exact ih)
    · refine w_iinc_1_3 ta_28 rfl rfl ?_
      refine w_iinc_2_3 ta_28 rfl rfl ?_
      refine w_goto ta_28 rfl ?_
      first
        | (rw [if_pos (by omega)] at ih; exact ih)
        | (rw [if_neg (by omega), Int.add_zero] at ih; exact ih)
set_option maxHeartbeats 4000000 in
set_option maxRecDepth 20000 in
theorem c_bled (D : Nat) (M : Mem) (hI : PkI 3 M) : CI D 28 [.inr (.inr 3)] M (fun v M' => v = blZ (M 5) (M 4) (M 3 4) ∧ M' = M) := by
  refine mk_C mt_28 rfl (Nat.le_of_ble_eq_true rfl) (L := [some _, none, none]) rfl ?_
  refine w_iconst ta_28 rfl ?_
  refine w_istn_1_3 ta_28 rfl rfl ?_
  refine w_iconst ta_28 rfl ?_
  refine w_istn_2_3 ta_28 rfl rfl ?_
  exact lp_bled D M hI 0 (by omega) hI.1
set_option maxHeartbeats 4000000 in
set_option maxRecDepth 20000 in
theorem lp_gch (D : Nat) (M : Mem) (hI : PkI 3 M)  : ∀ i : Int, 0 ≤ i → i ≤ M 3 4 → Wp (D + 4) 29 (5, [some (.inr (.inr 3)), some (.inl (gcZ (M 4) i)), some (.inl i)], [], M) (fun r M' => ∃ v, r = some (.inl v) ∧ (v = gcZ (M 4) (M 3 4) ∧ M' = M)) := by
  obtain ⟨n0, n1, k0, k1, f0, f1, r0, r1, s0, s1, hA⟩ := pkd_3 hI
  refine loopZ (M 3 4) ?_
  intro i h0 h1 ih
  refine w_iload_n ta_29 rfl rfl ?_
  refine w_aload_n ta_29 rfl rfl ?_
  refine w_getI 4 ta_29 rfl rfl rfl ?_
  refine w_icmp_ge ta_29 rfl ⟨by omega, by omega⟩ ⟨by omega, by omega⟩ (fun h10 => ?_) (fun h10 => ?_)
  · refine w_iload_n ta_29 rfl rfl ?_
    refine w_iret ta_29 rfl (Or.inl rfl) ?_
    exact ⟨_, rfl, by rw [show i = M 3 4 by omega], rfl⟩
  · have q := hA i h0 h10
    have ih := ih h10
    rw [gcZ_s _ h0] at ih
    have b := gcZ_b (ch := M 4) (n := i) (fun j g0 g1 => by have := hA j g0 (by omega); omega)
    refine w_iload_n ta_29 rfl rfl ?_
    refine w_aload_n ta_29 rfl rfl ?_
    refine w_getR ta_29 rfl rfl ?_
    refine w_iload_n ta_29 rfl rfl ?_
    refine w_iaload ta_29 rfl rfl (by omega) (by omega) (by omega) ?_
    refine w_max ta_29 rfl ⟨by omega, by omega⟩ ⟨by omega, by omega⟩ (Nat.le_of_ble_eq_true rfl) ?_
    refine w_istn_1_3 ta_29 rfl rfl ?_
    refine w_iinc_2_3 ta_29 rfl rfl ?_
    refine w_goto ta_29 rfl ?_
    exact ih
set_option maxHeartbeats 4000000 in
set_option maxRecDepth 20000 in
theorem c_gch (D : Nat) (M : Mem) (hI : PkI 3 M) : CI (D + 4) 29 [.inr (.inr 3)] M (fun v M' => v = gcZ (M 4) (M 3 4) ∧ M' = M) := by
  refine mk_C mt_29 rfl (Nat.le_of_ble_eq_true rfl) (L := [some _, none, none]) rfl ?_
  refine w_bipush ta_29 rfl ?_
  refine w_istn_1_3 ta_29 rfl rfl ?_
  refine w_iconst ta_29 rfl ?_
  refine w_istn_2_3 ta_29 rfl rfl ?_
  exact lp_gch D M hI 0 (by omega) hI.1
set_option maxHeartbeats 4000000 in
set_option maxRecDepth 20000 in
theorem lp_above (D : Nat) (M : Mem) (hI : PkI 3 M) (g : Int) (g0 : inR g) : ∀ i : Int, 0 ≤ i → i ≤ M 3 4 → Wp (D + 4) 26 (4, [some (.inr (.inr 3)), some (.inl g), some (.inl (sumZ (fun i => if M 6 i = g then (if 0 < M 5 i - M 3 6 then M 5 i - M 3 6 else 0) else 0) i)), some (.inl i)], [], M) (fun r M' => ∃ v, r = some (.inl v) ∧ (v = abZ (M 6) (M 5) (M 3 6) (M 3 4) g ∧ M' = M)) := by
  obtain ⟨n0, n1, k0, k1, f0, f1, r0, r1, s0, s1, hA⟩ := pkd_3 hI
  refine loopZ (M 3 4) ?_
  intro i h0 h1 ih
  refine w_iload_n ta_26 rfl rfl ?_
  refine w_aload_n ta_26 rfl rfl ?_
  refine w_getI 4 ta_26 rfl rfl rfl ?_
  refine w_icmp_ge ta_26 rfl ⟨by omega, by omega⟩ ⟨by omega, by omega⟩ (fun h9 => ?_) (fun h9 => ?_)
  · refine w_iload_n ta_26 rfl rfl ?_
    refine w_iret ta_26 rfl (Or.inl rfl) ?_
    exact ⟨_, rfl, by rw [show i = M 3 4 by omega]; rfl, rfl⟩
  · have q := hA i h0 h9
    obtain ⟨g2, g3⟩ := id g0
    have ih := ih h9
    rw [sumZ_s _ h0] at ih
    refine w_aload_n ta_26 rfl rfl ?_
    refine w_getR ta_26 rfl rfl ?_
    refine w_iload_n ta_26 rfl rfl ?_
    refine w_iaload ta_26 rfl rfl (by omega) (by omega) (by omega) ?_
    refine w_iload_n ta_26 rfl rfl ?_
    refine w_icmp_ne ta_26 rfl ⟨by omega, by omega⟩ ⟨by omega, by omega⟩ (fun h19 => ?_) (fun h19 => ?_)
    · refine w_iinc_3_4 ta_26 rfl rfl ?_
      refine w_goto ta_26 rfl ?_
      first
        | (rw [if_pos (by omega)] at ih; exact ih)
        | (rw [if_neg (by omega), Int.add_zero] at ih; exact ih)
    · refine w_iload_n ta_26 rfl rfl ?_
      refine w_iconst ta_26 rfl ?_
      refine w_aload_n ta_26 rfl rfl ?_
      refine w_getR ta_26 rfl rfl ?_
      refine w_iload_n ta_26 rfl rfl ?_
      refine w_iaload ta_26 rfl rfl (by omega) (by omega) (by omega) ?_
      refine w_aload_n ta_26 rfl rfl ?_
      refine w_getI 6 ta_26 rfl rfl rfl ?_
      refine w_isub ta_26 rfl ?_
      refine w_max ta_26 rfl ⟨by omega, by omega⟩ ⟨by omega, by omega⟩ (Nat.le_of_ble_eq_true rfl) ?_
      refine w_iadd ta_26 rfl ?_
      refine w_istn_2_4 ta_26 rfl rfl ?_
      refine w_iinc_3_4 ta_26 rfl rfl ?_
      refine w_goto ta_26 rfl ?_
      first
        | (rw [if_pos (by omega)] at ih; exact ih)
        | (rw [if_neg (by omega), Int.add_zero] at ih; exact ih)
set_option maxHeartbeats 4000000 in
set_option maxRecDepth 20000 in
theorem c_above (D : Nat) (M : Mem) (hI : PkI 3 M) (g : Int) (g0 : inR g) : CI (D + 4) 26 [.inr (.inr 3), .inl g] M (fun v M' => v = abZ (M 6) (M 5) (M 3 6) (M 3 4) g ∧ M' = M) := by
  refine mk_C mt_26 rfl (Nat.le_of_ble_eq_true rfl) (L := [some _, some _, none, none]) rfl ?_
  refine w_iconst ta_26 rfl ?_
  refine w_istn_2_4 ta_26 rfl rfl ?_
  refine w_iconst ta_26 rfl ?_
  refine w_istn_3_4 ta_26 rfl rfl ?_
  exact lp_above D M hI g g0 0 (by omega) hI.1
