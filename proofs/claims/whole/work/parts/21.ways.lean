theorem fb_holes : ∀ (m n : Nat) (f : Nat → Nat), (∀ i, i < n → f i < m) → (∀ i j, i < j → j < n → f i ≠ f j) → n ≤ m := by
  intro m
  induction m with
  | zero =>
    intro n f h1 _
    rcases Nat.eq_zero_or_pos n with h | h
    · omega
    · exact absurd (h1 0 h) (Nat.not_lt_zero _)
  | succ m ih =>
    intro n f h1 h2
    by_cases hx : ∃ i, i < n ∧ f i = m
    · obtain ⟨a, ha, hfa⟩ := hx
      have hg := ih (n - 1) (fun i => if i < a then f i else f (i + 1)) (by
        intro i hi
        by_cases q : i < a
        · simp only [if_pos q]
          have b1 := h1 i (by omega)
          have b2 := h2 i a q ha
          omega
        · simp only [if_neg q]
          have b1 := h1 (i + 1) (by omega)
          have b2 := h2 a (i + 1) (by omega) (by omega)
          omega) (by
        intro i j hij hj
        by_cases q : i < a
        · by_cases r : j < a
          · simp only [if_pos q, if_pos r]
            exact h2 i j hij (by omega)
          · simp only [if_pos q, if_neg r]
            exact h2 i (j + 1) (by omega) (by omega)
        · have r : ¬ j < a := by omega
          simp only [if_neg q, if_neg r]
          exact h2 (i + 1) (j + 1) (by omega) (by omega))
      omega
    · have hg := ih n f (fun i hi => by
        have b1 := h1 i hi
        have b2 : f i ≠ m := fun e => hx ⟨i, hi, e⟩
        omega) h2
      omega
/-- two of them in one place -/
theorem fb_twice {m n : Nat} {f : Nat → Nat} (h : ∀ i, i < n → f i < m) (hm : m < n) : ∃ i j, i < j ∧ j < n ∧ f i = f j := by
  refine Classical.byContradiction fun hx => ?_
  have := fb_holes m n f h (fun i j hij hj e => hx ⟨i, j, hij, hj, e⟩)
  omega
/-- as many as places, none twice: each place is taken -/
theorem fb_onto {n : Nat} {f : Nat → Nat} (h : ∀ i, i < n → f i < n) (h2 : ∀ i j, i < j → j < n → f i ≠ f j) {y : Nat} (hy : y < n) : ∃ i, i < n ∧ f i = y := by
  refine Classical.byContradiction fun hx => ?_
  have hne : ∀ i, i < n → f i ≠ y := fun i hi e => hx ⟨i, hi, e⟩
  have := fb_holes (n - 1) n (fun i => if f i < y then f i else f i - 1) (by
    intro i hi
    have b1 := h i hi
    have b2 := hne i hi
    by_cases q : f i < y
    · simp only [if_pos q]; omega
    · simp only [if_neg q]; omega) (by
    intro i j hij hj
    have b1 := hne i (by omega)
    have b2 := hne j hj
    have b3 := h2 i j hij hj
    by_cases q : f i < y
    · by_cases r : f j < y
      · simp only [if_pos q, if_pos r]; exact b3
      · simp only [if_pos q, if_neg r]; omega
    · by_cases r : f j < y
      · simp only [if_neg q, if_pos r]; omega
      · simp only [if_neg q, if_neg r]; omega)
  omega
/-! ways 0 and 1 -/
theorem sumZ_lt {f g : Int → Int} {n x : Int} (h : ∀ i, 0 ≤ i → i < n → f i ≤ g i) (x0 : 0 ≤ x) (x1 : x < n) (hx : f x < g x) : sumZ f n < sumZ g n := by
  have le : ∀ m : Nat, (∀ i : Int, 0 ≤ i → i < m → f i ≤ g i) → sumN f m ≤ sumN g m := by
    intro m
    induction m with
    | zero => intro _; exact Int.le_refl _
    | succ m ih => intro q; have := ih (fun i a b => q i a (by omega)); have := q m (by omega) (by omega); simp only [sumN]; omega
  have lt : ∀ m : Nat, (∀ i : Int, 0 ≤ i → i < m → f i ≤ g i) → x < m → sumN f m < sumN g m := by
    intro m
    induction m with
    | zero => intro _ q; omega
    | succ m ih =>
      intro q hm
      have q1 := q m (by omega) (by omega)
      simp only [sumN]
      by_cases e : x = m
      · subst e
        have := le m (fun i a b => q i a (by omega))
        omega
      · have := ih (fun i a b => q i a (by omega)) (by omega)
        omega
  exact lt n.toNat (fun i a b => h i a (by omega)) (by omega)
theorem sumZ_le {f g : Int → Int} {n : Int} (h : ∀ i, 0 ≤ i → i < n → f i ≤ g i) : sumZ f n ≤ sumZ g n := by
  have le : ∀ m : Nat, (∀ i : Int, 0 ≤ i → i < m → f i ≤ g i) → sumN f m ≤ sumN g m := by
    intro m
    induction m with
    | zero => intro _; exact Int.le_refl _
    | succ m ih => intro q; have := ih (fun i a b => q i a (by omega)); have := q m (by omega) (by omega); simp only [sumN]; omega
  exact le n.toNat (fun i a b => h i a (by omega))
theorem sumZ_c1 {n : Int} (h : 0 ≤ n) : sumZ (fun _ => 1) n = n := by
  have : ∀ m : Nat, sumN (fun _ => 1) m = m := by
    intro m
    induction m with
    | zero => rfl
    | succ m ih => simp only [sumN, ih]; omega
  unfold sumZ
  rw [this]
  omega
theorem sumZ_c0 (n : Int) : sumZ (fun _ => 0) n = 0 := by
  have : ∀ m : Nat, sumN (fun _ => 0) m = 0 := by
    intro m
    induction m with
    | zero => rfl
    | succ m ih => simp only [sumN, ih]; omega
  exact this _
theorem rkZ_b (ch : Int → Int) {n i : Int} (i0 : 0 ≤ i) (i1 : i < n) : 0 ≤ rkZ ch n i ∧ rkZ ch n i < n := by
  have h1 : sumZ (fun _ => 0) n ≤ rkZ ch n i := sumZ_le (fun j _ _ => by split <;> omega)
  have h2 : rkZ ch n i < sumZ (fun _ => 1) n := sumZ_lt (x := i) (fun j _ _ => by split <;> omega) i0 i1 (by rw [if_neg (by omega)]; omega)
  rw [sumZ_c0] at h1
  rw [sumZ_c1 (by omega)] at h2
  exact ⟨h1, h2⟩
theorem rkZ_lt (ch : Int → Int) {n i j : Int} (i0 : 0 ≤ i) (i1 : i < n) (h : ch j < ch i ∨ (ch i = ch j ∧ i < j)) : rkZ ch n i < rkZ ch n j := by
  refine sumZ_lt (x := i) (fun l _ _ => ?_) i0 i1 ?_
  · split
    · rw [if_pos (by omega)]; omega
    · split <;> omega
  · rw [if_neg (by omega), if_pos (by omega)]
    omega
theorem rkZ_inj (ch : Int → Int) {n i j : Int} (i0 : 0 ≤ i) (i1 : i < n) (j0 : 0 ≤ j) (j1 : j < n) (h : rkZ ch n i = rkZ ch n j) : i = j := by
  by_cases e : i = j
  · exact e
  · exfalso
    rcases Int.lt_trichotomy (ch i) (ch j) with q | q | q
    · have := rkZ_lt ch (n := n) (i := j) (j := i) j0 j1 (Or.inl q); omega
    · rcases Int.lt_or_gt_of_ne e with r | r
      · have := rkZ_lt ch (n := n) (i := i) (j := j) i0 i1 (Or.inr ⟨q, r⟩); omega
      · have := rkZ_lt ch (n := n) (i := j) (j := i) j0 j1 (Or.inr ⟨q.symm, r⟩); omega
    · have := rkZ_lt ch (n := n) (i := i) (j := j) i0 i1 (Or.inl q); omega
theorem rkZ_onto (ch : Int → Int) {n r : Int} (r0 : 0 ≤ r) (r1 : r < n) : ∃ i, 0 ≤ i ∧ i < n ∧ rkZ ch n i = r := by
  obtain ⟨i, h1, h2⟩ := fb_onto (n := n.toNat) (f := fun i => (rkZ ch n i).toNat) (fun i hi => by have := rkZ_b ch (n := n) (i := i) (by omega) (by omega); omega) (fun i j hij hj e => by
    have b1 := rkZ_b ch (n := n) (i := i) (by omega) (by omega)
    have b2 := rkZ_b ch (n := n) (i := j) (by omega) (by omega)
    have := rkZ_inj ch (n := n) (i := i) (j := j) (by omega) (by omega) (by omega) (by omega) (by omega)
    omega) (y := r.toNat) (by omega)
  have b1 := rkZ_b ch (n := n) (i := i) (by omega) (by omega)
  exact ⟨i, by omega, by omega, by omega⟩
theorem rkZ_cg {f g : Int → Int} {n i : Int} (i0 : 0 ≤ i) (i1 : i < n) (h : ∀ j, 0 ≤ j → j < n → f j = g j) : rkZ f n i = rkZ g n i := sumZ_cg (fun j j0 j1 => by rw [h j j0 j1, h i i0 i1])
/-- which cell is r-th by charge -/
def oN (ch : Int → Int) (n r : Int) : Nat → Int
  | 0 => 0
  | i + 1 => if rkZ ch n i = r then i else oN ch n r i
def ordZ (ch : Int → Int) (n r : Int) : Int := oN ch n r n.toNat
theorem oN_at (ch : Int → Int) {n r x : Int} (x0 : 0 ≤ x) (x1 : x < n) (hx : rkZ ch n x = r) : ∀ m : Nat, x < m → (m : Int) ≤ n → oN ch n r m = x
  | 0, h, _ => by omega
  | m + 1, h, h2 => by
    unfold oN
    split
    · rename_i e
      exact rkZ_inj ch (by omega) (by omega) x0 x1 (by rw [e, hx])
    · rename_i e
      have : x ≠ m := fun q => e (by rw [← q]; exact hx)
      exact oN_at ch x0 x1 hx m (by omega) (by omega)
theorem ordZ_at (ch : Int → Int) {n x : Int} (x0 : 0 ≤ x) (x1 : x < n) : ordZ ch n (rkZ ch n x) = x := oN_at ch x0 x1 rfl n.toNat (by omega) (by omega)
theorem ordZ_b (ch : Int → Int) {n r : Int} (r0 : 0 ≤ r) (r1 : r < n) : 0 ≤ ordZ ch n r ∧ ordZ ch n r < n ∧ rkZ ch n (ordZ ch n r) = r := by
  obtain ⟨i, h0, h1, h2⟩ := rkZ_onto ch r0 r1
  have := ordZ_at ch h0 h1
  rw [h2] at this
  rw [this]
  exact ⟨h0, h1, h2⟩
theorem oN_cg {f g : Int → Int} {n r : Int} (h : ∀ j, 0 ≤ j → j < n → f j = g j) : ∀ m : Nat, (m : Int) ≤ n → oN f n r m = oN g n r m
  | 0, _ => rfl
  | m + 1, hm => by rw [oN, oN, oN_cg h m (by omega), rkZ_cg (by omega) (by omega) h]
theorem ordZ_cg {f g : Int → Int} {n r : Int} (h : ∀ j, 0 ≤ j → j < n → f j = g j) : ordZ f n r = ordZ g n r := by
  by_cases hn : 0 ≤ n
  · exact oN_cg h n.toNat (by omega)
  · unfold ordZ
    rw [show n.toNat = 0 by omega]
    rfl
/-- by the weakest group: sums, homes, r steps on -/
def wkS (ch : Int → Int) (n k : Int) (s0 : Int → Int) : Nat → (Int → Int)
  | 0 => s0
  | r + 1 => upI (wkS ch n k s0 r) (flZ (wkS ch n k s0 r) k) (wkS ch n k s0 r (flZ (wkS ch n k s0 r) k) + ch (ordZ ch n r))
def wkH (ch : Int → Int) (n k : Int) (s0 h0 : Int → Int) : Nat → (Int → Int)
  | 0 => h0
  | r + 1 => upI (wkH ch n k s0 h0 r) (ordZ ch n r) (flZ (wkS ch n k s0 r) k)
theorem wkS_b {ch s0 : Int → Int} {n k : Int} (hk : 1 ≤ k) (hs : ∀ g, 0 ≤ g → g < k → s0 g = 0) (hc : ∀ i, 0 ≤ i → i < n → 1 ≤ ch i ∧ ch i ≤ 999) : ∀ r : Nat, (r : Int) ≤ n → ∀ g, 0 ≤ g → g < k → 0 ≤ wkS ch n k s0 r g ∧ wkS ch n k s0 r g ≤ 999 * r
  | 0, _, g, g0, g1 => by have := hs g g0 g1; simp only [wkS]; omega
  | r + 1, hr, g, g0, g1 => by
    have ih := wkS_b hk hs hc r (by omega)
    have b := flZ_b (wkS ch n k s0 r) hk
    have q := ih _ b.1 b.2
    have q2 := ih g g0 g1
    have ob := ordZ_b ch (n := n) (r := r) (by omega) (by omega)
    have q3 := hc _ ob.1 ob.2.1
    simp only [wkS]
    unfold upI
    split <;> omega
theorem wkS_cg {ch ch' s0 s0' : Int → Int} {n k : Int} (hk : 1 ≤ k) (hs : ∀ g, 0 ≤ g → g < k → s0 g = s0' g) (hc : ∀ i, 0 ≤ i → i < n → ch i = ch' i) : ∀ r : Nat, (r : Int) ≤ n → ∀ g, 0 ≤ g → g < k → wkS ch n k s0 r g = wkS ch' n k s0' r g
  | 0, _, g, g0, g1 => hs g g0 g1
  | r + 1, hr, g, g0, g1 => by
    have ih := wkS_cg hk hs hc r (by omega)
    have b := flZ_b (wkS ch' n k s0' r) hk
    have ob := ordZ_b ch' (n := n) (r := r) (by omega) (by omega)
    simp only [wkS]
    rw [flZ_cg hk ih, ordZ_cg hc, ih _ b.1 b.2, hc _ ob.1 ob.2.1]
    unfold upI
    split
    · rfl
    · exact ih g g0 g1
theorem wkH_cg {ch ch' s0 s0' h0 h0' : Int → Int} {n k : Int} (hk : 1 ≤ k) (hs : ∀ g, 0 ≤ g → g < k → s0 g = s0' g) (hc : ∀ i, 0 ≤ i → i < n → ch i = ch' i) : ∀ (r : Nat), (r : Int) ≤ n → ∀ x, 0 ≤ x → x < n → rkZ ch n x < r → wkH ch n k s0 h0 r x = wkH ch' n k s0' h0' r x
  | 0, _, x, x0, x1, hx => by have := rkZ_b ch x0 x1; omega
  | r + 1, hr, x, x0, x1, hx => by
    have ih := wkH_cg (h0 := h0) (h0' := h0') hk hs hc r (by omega)
    simp only [wkH]
    rw [flZ_cg hk (wkS_cg hk hs hc r (by omega)), ordZ_cg hc]
    unfold upI
    by_cases e : x = ordZ ch' n r
    · rw [if_pos e, if_pos e]
    · rw [if_neg e, if_neg e]
      refine ih x x0 x1 ?_
      have : rkZ ch n x ≠ r := fun q => e (by rw [← ordZ_cg hc, ← q]; exact (ordZ_at ch x0 x1).symm)
      omega
/-- the homes by way 1 -/
def way1 (ch : Int → Int) (n k : Int) : Int → Int := wkH ch n k (fun _ => 0) (fun _ => 0) n.toNat
theorem way1_cg {f g : Int → Int} {n k : Int} (hk : 1 ≤ k) (hc : ∀ i, 0 ≤ i → i < n → f i = g i) (i : Int) (i0 : 0 ≤ i) (i1 : i < n) : way1 f n k i = way1 g n k i := by
  have := rkZ_b f i0 i1
  exact wkH_cg hk (fun _ _ _ => rfl) hc n.toNat (by omega) i i0 i1 (by omega)
theorem way1_b {ch : Int → Int} {n k : Int} (hk : 1 ≤ k) : ∀ (r : Nat), (r : Int) ≤ n → ∀ s0 h0 : Int → Int, (∀ x, 0 ≤ x → x < n → 0 ≤ h0 x ∧ h0 x < k) → ∀ x, 0 ≤ x → x < n → 0 ≤ wkH ch n k s0 h0 r x ∧ wkH ch n k s0 h0 r x < k
  | 0, _, _, _, h, x, x0, x1 => h x x0 x1
  | r + 1, hr, s0, h0, h, x, x0, x1 => by
    have ih := way1_b (ch := ch) hk r (by omega) s0 h0 h x x0 x1
    have b := flZ_b (wkS ch n k s0 r) hk
    simp only [wkH]
    unfold upI
    split
    · exact b
    · exact ih
/-- only the ways' own cells have changed -/
def FrW (M M' : Mem) : Prop := ∀ c, c < 27 ∨ 70 < c → M' c = M c
def mdF (f : Int → Int) (k i : Int) : Int → Int := fun j => if 0 ≤ j ∧ j < i then j % k else f j
theorem mdF_0 (f : Int → Int) (k : Int) : mdF f k 0 = f := by funext j; exact if_neg (by omega)
theorem mdF_s (f : Int → Int) (k : Int) {i : Int} (h : 0 ≤ i) : upI (mdF f k i) i (i % k) = mdF f k (i + 1) := by
  funext j
  unfold upI mdF
  by_cases e : j = i
  · rw [if_pos e, if_pos (by omega), e]
  · rw [if_neg e]
    by_cases h2 : 0 ≤ j ∧ j < i
    · rw [if_pos h2, if_pos (by omega)]
    · rw [if_neg h2, if_neg (by omega)]
set_option maxHeartbeats 4000000 in
set_option maxRecDepth 20000 in
theorem lp_byTurns (D : Nat) (M : Mem) (hI : PkI 3 M) : ∀ i : Int, 0 ≤ i → i ≤ M 3 4 → Wp D 53 (2, [some (.inr (.inr 26)), some (.inr (.inr 3)), some (.inl i)], [], setC M 27 (mdF (M 27) (M 3 5) i)) (fun r M' => r = none ∧ M' = setC M 27 (mdF (M 27) (M 3 5) (M 3 4))) := by
  obtain ⟨n0, n1, k0, k1, f0, f1, r0, r1, s0, s1, hA⟩ := pkd_3 hI
  refine loopZ (M 3 4) ?_
  intro i h0 h1 ih
  refine w_iload_n ta_53 rfl rfl ?_
  refine w_aload_n ta_53 rfl rfl ?_
  refine w_getIv 4 (v := M 3 4) ta_53 rfl rfl rfl rfl ?_
  refine w_icmp_ge ta_53 rfl ⟨by omega, by omega⟩ ⟨by omega, by omega⟩ (fun h7 => ?_) (fun h7 => ?_)
  · refine w_vret ta_53 rfl ?_
    exact ⟨rfl, by rw [show i = M 3 4 by omega]⟩
  · refine w_aload_n ta_53 rfl rfl ?_
    refine w_getR ta_53 rfl rfl ?_
    refine w_iload_n ta_53 rfl rfl ?_
    refine w_iload_n ta_53 rfl rfl ?_
    refine w_aload_n ta_53 rfl rfl ?_
    refine w_getIv 5 (v := M 3 5) ta_53 rfl rfl rfl rfl ?_
    refine w_irem ta_53 rfl (by omega) (by omega) (by omega) (by omega) ?_
    refine w_iastore ta_53 rfl rfl (by omega) (by omega) (by omega) ?_
    refine w_iinc_2_3 ta_53 rfl rfl ?_
    refine w_goto ta_53 rfl ?_
    rw [wr_sc, mdF_s _ _ h0]
    exact ih h7
set_option maxHeartbeats 4000000 in
set_option maxRecDepth 20000 in
theorem c_byTurns (D : Nat) (M : Mem) (hI : PkI 3 M) : CV D 53 [.inr (.inr 26), .inr (.inr 3)] M (fun M' => M' = setC M 27 (mdF (M 27) (M 3 5) (M 3 4))) := by
  refine mk_C mt_53 rfl (Nat.le_of_ble_eq_true rfl) (L := [some _, some _, none]) rfl ?_
  refine w_iconst ta_53 rfl ?_
  refine w_istn_2_3 ta_53 rfl rfl ?_
  have q := lp_byTurns D M hI 0 (by omega) hI.1
  rw [mdF_0, sc_id] at q
  exact q
set_option maxHeartbeats 4000000 in
set_option maxRecDepth 20000 in
theorem lp_strangers (D : Nat) (M : Mem) (hI : PkI 3 M) (hh : ∀ i, 0 ≤ i → i < M 3 4 → inR (M 27 i)) : ∀ i : Int, 0 ≤ i → i ≤ M 3 4 → Wp D 57 (4, [some (.inr (.inr 26)), some (.inr (.inr 3)), some (.inl (sumZ (fun j => if M 27 j ≠ M 6 j then 1 else 0) i)), some (.inl i)], [], M) (fun r M' => ∃ v, r = some (.inl v) ∧ (v = sumZ (fun j => if M 27 j ≠ M 6 j then 1 else 0) (M 3 4) ∧ M' = M)) := by
  obtain ⟨n0, n1, k0, k1, f0, f1, r0, r1, s0, s1, hA⟩ := pkd_3 hI
  refine loopZ (M 3 4) ?_
  intro i h0 h1 ih
  refine w_iload_n ta_57 rfl rfl ?_
  refine w_aload_n ta_57 rfl rfl ?_
  refine w_getI 4 ta_57 rfl rfl rfl ?_
  refine w_icmp_ge ta_57 rfl ⟨by omega, by omega⟩ ⟨by omega, by omega⟩ (fun h9 => ?_) (fun h9 => ?_)
  · refine w_iload_n ta_57 rfl rfl ?_
    refine w_iret ta_57 rfl (Or.inl rfl) ?_
    exact ⟨_, rfl, by rw [show i = M 3 4 by omega], rfl⟩
  · have q := hA i h0 h9
    obtain ⟨q1, q2⟩ := hh i h0 h9
    have ih := ih h9
    rw [sumZ_s _ h0] at ih
    refine w_aload_n ta_57 rfl rfl ?_
    refine w_getR ta_57 rfl rfl ?_
    refine w_iload_n ta_57 rfl rfl ?_
    refine w_iaload ta_57 rfl rfl (by omega) (by omega) (by omega) ?_
    refine w_aload_n ta_57 rfl rfl ?_
    refine w_getR ta_57 rfl rfl ?_
    refine w_iload_n ta_57 rfl rfl ?_
    refine w_iaload ta_57 rfl rfl (by omega) (by omega) (by omega) ?_
    refine w_icmp_eq ta_57 rfl ⟨by omega, by omega⟩ ⟨by omega, by omega⟩ (fun h24 => ?_) (fun h24 => ?_)
    · refine w_iinc_3_4 ta_57 rfl rfl ?_
      refine w_goto ta_57 rfl ?_
      first
        | (rw [if_pos (by omega)] at ih; exact ih)
        | (rw [if_neg (by omega), Int.add_zero] at ih; exact ih)
    · refine w_iinc_2_4 ta_57 rfl rfl ?_
      refine w_iinc_3_4 ta_57 rfl rfl ?_
      refine w_goto ta_57 rfl ?_
      first
        | (rw [if_pos (by omega)] at ih; exact ih)
        | (rw [if_neg (by omega), Int.add_zero] at ih; exact ih)
set_option maxHeartbeats 4000000 in
set_option maxRecDepth 20000 in
theorem c_strangers (D : Nat) (M : Mem) (hI : PkI 3 M) (hh : ∀ i, 0 ≤ i → i < M 3 4 → inR (M 27 i)) : CI D 57 [.inr (.inr 26), .inr (.inr 3)] M (fun v M' => v = sumZ (fun j => if M 27 j ≠ M 6 j then 1 else 0) (M 3 4) ∧ M' = M) := by
  refine mk_C mt_57 rfl (Nat.le_of_ble_eq_true rfl) (L := [some _, some _, none, none]) rfl ?_
  refine w_iconst ta_57 rfl ?_
  refine w_istn_2_4 ta_57 rfl rfl ?_
  refine w_iconst ta_57 rfl ?_
  refine w_istn_3_4 ta_57 rfl rfl ?_
  exact lp_strangers D M hI hh 0 (by omega) hI.1
/-- sums of charges by the ways' homes -/
def SW (M : Mem) (g : Int) : Int := sumG (M 4) (M 27) (M 3 4) g
theorem SW_b {M : Mem} (h : PkI 3 M) (g : Int) : 0 ≤ SW M g ∧ SW M g ≤ 15984 := by
  obtain ⟨n0, n1, k0, k1, f0, f1, r0, r1, s0, s1, hA⟩ := pkd_3 h
  have := sumG_b (v := M 4) (h := M 27) (n := M 3 4) 999 g n1 (by omega) (fun i h0 h1 => by have := hA i h0 h1; omega)
  unfold SW
  omega
def SmW (M M' : Mem) : Prop := (∀ c, c ≠ 28 → M' c = M c) ∧ ∀ g, 0 ≤ g → g < 5 → M' 28 g = SW M g
set_option maxHeartbeats 4000000 in
set_option maxRecDepth 20000 in
theorem c_wLeastSum (D : Nat) (M : Mem) (hI : PkI 3 M) (hh : ∀ i, 0 ≤ i → i < M 3 4 → 0 ≤ M 27 i ∧ M 27 i < M 3 5) : CI (D + 2) 55 [.inr (.inr 26), .inr (.inr 3)] M (fun v M' => v = lsZ (SW M) (M 3 5) ∧ SmW M M') := by
  refine mk_C mt_55 rfl (Nat.le_of_ble_eq_true rfl) (L := [some _, some _]) rfl ?_
  obtain ⟨n0, n1, k0, k1, f0, f1, r0, r1, s0, s1, hA⟩ := pkd_3 hI
  refine w_aload_n ta_55 rfl rfl ?_
  refine w_getR ta_55 rfl rfl ?_
  refine w_aload_n ta_55 rfl rfl ?_
  refine w_getR ta_55 rfl rfl ?_
  refine w_aload_n ta_55 rfl rfl ?_
  refine w_getI 4 ta_55 rfl rfl rfl ?_
  refine w_aload_n ta_55 rfl rfl ?_
  refine w_getR ta_55 rfl rfl ?_
  refine w_cV [_, _, _, _] _ ta_55 rfl rfl rfl mt_102 rfl rfl rfl rfl (Nat.le_of_ble_eq_true rfl) (fun q => by cases q) rfl (c_sumUp _ 4 27 28 5 16 16 (M 3 4) M rfl rfl rfl (by decide) (by decide) (by decide) (by decide) (by decide) (by omega) (by omega) (fun i h0 h1 => by have := hh i h0 h1; omega) n0) ?_
  rintro M1 hM1
  have hS : SmW M M1 := ⟨fun c hc => by rw [hM1, sc_n _ _ hc], fun g h0 h1 => by rw [hM1, sc_s]; exact smF_at h0 h1⟩
  have e3 : M1 3 = M 3 := hS.1 3 (by decide)
  refine w_aload_n ta_55 rfl rfl ?_
  refine w_getR ta_55 rfl rfl ?_
  refine w_aload_n ta_55 rfl rfl ?_
  refine w_getR ta_55 rfl rfl ?_
  refine w_aload_n ta_55 rfl rfl ?_
  refine w_getIv 5 (v := M 3 5) ta_55 rfl rfl rfl (by rw [e3]) ?_
  refine w_cI [_, _] _ ta_55 rfl rfl rfl mt_103 rfl rfl rfl rfl (Nat.le_of_ble_eq_true rfl) (fun q => by cases q) rfl (c_firstLeast _ 28 5 (M 3 5) M1 rfl (by decide) (by omega) (fun g h0 h1 => by have := SW_b hI g; rw [hS.2 g h0 (by omega)]; constructor <;> omega) (by omega)) ?_
  rintro v M2 ⟨hv, rfl⟩
  rw [flZ_cg (s' := SW M) (by omega) (fun g h0 h1 => hS.2 g h0 (by omega))] at hv
  have b := flZ_b (SW M) (k := M 3 5) (by omega)
  refine w_iaload ta_55 rfl rfl (by omega) (by omega) (by omega) ?_
  refine w_iret ta_55 rfl (Or.inl rfl) ?_
  exact ⟨_, rfl, by rw [hv]; exact hS.2 _ b.1 (by omega), hS⟩
set_option maxHeartbeats 4000000 in
set_option maxRecDepth 20000 in
theorem c_wSpread (D : Nat) (M : Mem) (hI : PkI 3 M) (hh : ∀ i, 0 ≤ i → i < M 3 4 → 0 ≤ M 27 i ∧ M 27 i < M 3 5) : CI (D + 5) 56 [.inr (.inr 26), .inr (.inr 3)] M (fun v M' => v = grZ (SW M) (M 3 5) - lsZ (SW M) (M 3 5) ∧ SmW M M') := by
  refine mk_C mt_56 rfl (Nat.le_of_ble_eq_true rfl) (L := [some _, some _, none]) rfl ?_
  obtain ⟨n0, n1, k0, k1, f0, f1, r0, r1, s0, s1, hA⟩ := pkd_3 hI
  refine w_aload_n ta_56 rfl rfl ?_
  refine w_aload_n ta_56 rfl rfl ?_
  refine w_cI [_, _] _ ta_56 rfl rfl rfl mt_55 rfl rfl rfl rfl (Nat.le_of_ble_eq_true rfl) (fun _ => rfl) rfl (c_wLeastSum _ M hI hh) ?_
  rintro v M1 ⟨rfl, hS⟩
  have e3 : M1 3 = M 3 := hS.1 3 (by decide)
  refine w_istn_2_3 ta_56 rfl rfl ?_
  refine w_aload_n ta_56 rfl rfl ?_
  refine w_getR ta_56 rfl rfl ?_
  refine w_aload_n ta_56 rfl rfl ?_
  refine w_getIv 5 (v := M 3 5) ta_56 rfl rfl rfl (by rw [e3]) ?_
  refine w_cI [_, _] _ ta_56 rfl rfl rfl mt_104 rfl rfl rfl rfl (Nat.le_of_ble_eq_true rfl) (fun q => by cases q) rfl (c_greatest _ 28 5 (M 3 5) M1 rfl (by decide) (by omega) (fun g h0 h1 => by have := SW_b hI g; rw [hS.2 g h0 (by omega)]; constructor <;> omega) (by omega)) ?_
  rintro v M2 ⟨hv, rfl⟩
  refine w_iload_n ta_56 rfl rfl ?_
  refine w_isub ta_56 rfl ?_
  refine w_iret ta_56 rfl (Or.inl rfl) ?_
  exact ⟨_, rfl, by rw [hv, grZ_cg (s' := SW M) (by omega) (fun g h0 h1 => hS.2 g h0 (by omega))], hS⟩
/-- the first i cells have their places in the order -/
def ofF (ch : Int → Int) (n : Int) (f : Int → Int) : Nat → (Int → Int)
  | 0 => f
  | i + 1 => upI (ofF ch n f i) (rkZ ch n i) i
theorem ofF_at (ch : Int → Int) {n : Int} (f : Int → Int) {x : Int} (x0 : 0 ≤ x) (x1 : x < n) : ∀ m : Nat, x < m → (m : Int) ≤ n → ofF ch n f m (rkZ ch n x) = x
  | 0, h, _ => by omega
  | m + 1, h, h2 => by
    simp only [ofF]
    unfold upI
    split
    · rename_i e
      exact (rkZ_inj ch x0 x1 (by omega) (by omega) e).symm
    · rename_i e
      have : x ≠ m := fun q => e (by rw [← q])
      exact ofF_at ch f x0 x1 m (by omega) (by omega)
set_option maxHeartbeats 4000000 in
set_option maxRecDepth 20000 in
theorem lp_byWeakest1 (D : Nat) (M : Mem) (hI : PkI 3 M) (P : Option AV → Mem → Prop) (hP : ∀ N : Mem, N = setC M 29 (ofF (M 4) (M 3 4) (M 29) (M 3 4).toNat) → Wp (D + 1) 54 (27, [some (.inr (.inr 26)), some (.inr (.inr 3)), some (.inl (M 3 4)), none], [], N) P) : ∀ i : Int, 0 ≤ i → i ≤ M 3 4 → Wp (D + 1) 54 (2, [some (.inr (.inr 26)), some (.inr (.inr 3)), some (.inl i), none], [], setC M 29 (ofF (M 4) (M 3 4) (M 29) i.toNat)) P := by
  obtain ⟨n0, n1, k0, k1, f0, f1, r0, r1, s0, s1, hA⟩ := pkd_3 hI
  refine loopZ (M 3 4) ?_
  intro i h0 h1 ih
  refine w_iload_n ta_54 rfl rfl ?_
  refine w_aload_n ta_54 rfl rfl ?_
  refine w_getIv 4 (v := M 3 4) ta_54 rfl rfl rfl rfl ?_
  refine w_icmp_ge ta_54 rfl ⟨by omega, by omega⟩ ⟨by omega, by omega⟩ (fun h7 => ?_) (fun h7 => ?_)
  · rw [show i = M 3 4 by omega]
    exact hP _ rfl
  · refine w_aload_n ta_54 rfl rfl ?_
    refine w_getR ta_54 rfl rfl ?_
    refine w_aload_n ta_54 rfl rfl ?_
    refine w_iload_n ta_54 rfl rfl ?_
    have hI1 : PkI 3 (setC M 29 (ofF (M 4) (M 3 4) (M 29) i.toNat)) := hI.of rfl rfl rfl rfl
    refine w_cI [_, _] _ ta_54 rfl rfl rfl mt_23 rfl rfl rfl rfl (Nat.le_of_ble_eq_true rfl) (fun _ => rfl) rfl (c_rank _ _ hI1 i h0 h7) ?_
    rintro v M2 ⟨hv, rfl⟩
    have hv : v = rkZ (M 4) (M 3 4) i := hv
    have b := rkZ_b (M 4) h0 h7
    refine w_iload_n ta_54 rfl rfl ?_
    refine w_iastore ta_54 rfl rfl (by omega) (by omega) (by omega) ?_
    refine w_iinc_2_4 ta_54 rfl rfl ?_
    refine w_goto ta_54 rfl ?_
    rw [wr_sc, hv]
    have ih := ih h7
    rw [show (i + 1).toNat = i.toNat + 1 by omega] at ih
    simp only [ofF] at ih
    rw [show ((i.toNat : Nat) : Int) = i by omega] at ih
    exact ih
theorem wk_mem {N : Mem} {f g : Int → Int} {i v j w : Int} : wr (wr (setC (setC N 27 f) 28 g) 27 i v) 28 j w = setC (setC N 27 (upI f i v)) 28 (upI g j w) := by
  funext c
  by_cases h4 : c = 27
  · subst h4; rfl
  · by_cases h5 : c = 28
    · subst h5; rfl
    · simp only [wr, setC, h4, h5, if_false]
set_option maxHeartbeats 4000000 in
set_option maxRecDepth 20000 in
theorem lp_byWeakest2 (D : Nat) (M : Mem) (hI : PkI 3 M) (N : Mem) (sa : Int → Int) (hs : ∀ g, 0 ≤ g → g < 5 → sa g = 0) (e3 : N 3 = M 3) (e4 : N 4 = M 4) (eo : ∀ r, 0 ≤ r → r < M 3 4 → N 29 r = ordZ (M 4) (M 3 4) r) : ∀ r : Int, 0 ≤ r → r ≤ M 3 4 → ∀ q : Option AV, isLg q = false → Wp (D + 1) 54 (37, [some (.inr (.inr 26)), some (.inr (.inr 3)), some (.inl r), q], [], setC (setC N 27 (wkH (M 4) (M 3 4) (M 3 5) sa (N 27) r.toNat)) 28 (wkS (M 4) (M 3 4) (M 3 5) sa r.toNat)) (fun r' M' => r' = none ∧ M' = setC (setC N 27 (wkH (M 4) (M 3 4) (M 3 5) sa (N 27) (M 3 4).toNat)) 28 (wkS (M 4) (M 3 4) (M 3 5) sa (M 3 4).toNat)) := by
  obtain ⟨n0, n1, k0, k1, f0, f1, r0, r1, s0, s1, hA⟩ := pkd_3 hI
  refine loopZ (M 3 4) ?_
  intro r h0 h1 ih q0 hq0
  refine w_iload_n ta_54 rfl rfl ?_
  refine w_aload_n ta_54 rfl rfl ?_
  refine w_getIv 4 (v := M 3 4) ta_54 rfl rfl rfl (by show N 3 4 = _; rw [e3]) ?_
  refine w_icmp_ge ta_54 rfl ⟨by omega, by omega⟩ ⟨by omega, by omega⟩ (fun h42 => ?_) (fun h42 => ?_)
  · refine w_vret ta_54 rfl ?_
    exact ⟨rfl, by rw [show r = M 3 4 by omega]⟩
  · refine w_aload_n ta_54 rfl rfl ?_
    refine w_getR ta_54 rfl rfl ?_
    refine w_iload_n ta_54 rfl rfl ?_
    refine w_ialoadv (v := ordZ (M 4) (M 3 4) r) ta_54 rfl rfl (by omega) (by omega) (by omega) (by show N 29 r = _; exact eo r h0 h42) ?_
    have ob := ordZ_b (M 4) h0 h42
    have qo := hA _ ob.1 ob.2.1
    have wb := wkS_b (ch := M 4) (s0 := sa) (n := M 3 4) (k := M 3 5) (by omega) (fun g g0 g1 => hs g g0 (by omega)) (fun i i0 i1 => by have := hA i i0 i1; omega) r.toNat (by omega)
    have ih := ih h42
    rw [show (r + 1).toNat = r.toNat + 1 by omega] at ih
    simp only [wkS, wkH] at ih
    rw [show ((r.toNat : Nat) : Int) = r by omega] at ih
    refine w_istn_3_4 ta_54 rfl rfl ?_
    refine w_aload_n ta_54 rfl rfl ?_
    refine w_getR ta_54 rfl rfl ?_
    refine w_iload_n ta_54 rfl rfl ?_
    refine w_aload_n ta_54 rfl rfl ?_
    refine w_getR ta_54 rfl rfl ?_
    refine w_aload_n ta_54 rfl rfl ?_
    refine w_getIv 5 (v := M 3 5) ta_54 rfl rfl rfl (by show N 3 5 = _; rw [e3]) ?_
    refine w_cI [_, _] _ ta_54 rfl rfl rfl mt_103 rfl rfl rfl rfl (Nat.le_of_ble_eq_true rfl) (fun q => by cases q) rfl (c_firstLeast _ 28 5 (M 3 5) _ rfl (by decide) (by omega) (fun g h0 h1 => by have := wb g h0 h1; exact ⟨by show _ ≤ wkS (M 4) (M 3 4) (M 3 5) sa r.toNat g; omega, by show wkS (M 4) (M 3 4) (M 3 5) sa r.toNat g < _; omega⟩) (by omega)) ?_
    rintro v M2 ⟨hv, rfl⟩
    have hv : v = flZ (wkS (M 4) (M 3 4) (M 3 5) sa r.toNat) (M 3 5) := hv
    have b := flZ_b (wkS (M 4) (M 3 4) (M 3 5) sa r.toNat) (k := M 3 5) (by omega)
    rw [← hv] at b ih
    refine w_iastore ta_54 rfl rfl (by omega) (by omega) (by omega) ?_
    refine w_aload_n ta_54 rfl rfl ?_
    refine w_getR ta_54 rfl rfl ?_
    refine w_aload_n ta_54 rfl rfl ?_
    refine w_getR ta_54 rfl rfl ?_
    refine w_iload_n ta_54 rfl rfl ?_
    refine w_ialoadv (v := v) ta_54 rfl rfl (by omega) (by omega) (by omega) (by show upI _ _ v _ = v; rw [up_s]) ?_
    refine w_dup2 ta_54 rfl rfl rfl ?_
    refine w_ialoadv (v := wkS (M 4) (M 3 4) (M 3 5) sa r.toNat v) ta_54 rfl rfl (by omega) (by omega) (by omega) rfl ?_
    refine w_aload_n ta_54 rfl rfl ?_
    refine w_getR ta_54 rfl rfl ?_
    refine w_iload_n ta_54 rfl rfl ?_
    refine w_ialoadv (v := M 4 (ordZ (M 4) (M 3 4) r)) ta_54 rfl rfl (by omega) (by omega) (by omega) (by show N 4 _ = _; rw [e4]) ?_
    refine w_iadd ta_54 rfl ?_
    refine w_iastore ta_54 rfl rfl (by omega) (by omega) (by omega) ?_
    refine w_iinc_2_4 ta_54 rfl rfl ?_
    refine w_goto ta_54 rfl ?_
    rw [wk_mem]
    exact ih _ rfl
set_option maxHeartbeats 4000000 in
set_option maxRecDepth 20000 in
theorem c_byWeakest (D : Nat) (M : Mem) (hI : PkI 3 M) : CV (D + 1) 54 [.inr (.inr 26), .inr (.inr 3)] M (fun M' => FrW M M' ∧ ∀ i, 0 ≤ i → i < M 3 4 → M' 27 i = way1 (M 4) (M 3 4) (M 3 5) i) := by
  refine mk_C mt_54 rfl (Nat.le_of_ble_eq_true rfl) (L := [some _, some _, none, none]) rfl ?_
  obtain ⟨n0, n1, k0, k1, f0, f1, r0, r1, s0, s1, hA⟩ := pkd_3 hI
  refine w_iconst ta_54 rfl ?_
  refine w_istn_2_4 ta_54 rfl rfl ?_
  have q := lp_byWeakest1 D M hI (fun r M' => r = none ∧ (FrW M M' ∧ ∀ i, 0 ≤ i → i < M 3 4 → M' 27 i = way1 (M 4) (M 3 4) (M 3 5) i)) ?_ 0 (by omega) n0
  · rw [show ofF (M 4) (M 3 4) (M 29) (0 : Int).toNat = M 29 from rfl, sc_id] at q
    exact q
  · intro N hN
    have e3 : N 3 = M 3 := by rw [hN]; rfl
    have e4 : N 4 = M 4 := by rw [hN]; rfl
    refine w_aload_n ta_54 rfl rfl ?_
    refine w_getR ta_54 rfl rfl ?_
    refine w_iconst ta_54 rfl ?_
    refine w_cV [_, _] _ ta_54 rfl rfl rfl mt_196 rfl rfl rfl rfl (Nat.le_of_ble_eq_true rfl) (fun q => by cases q) rfl (c_fill _ 28 5 0 N rfl (by decide)) ?_
    rintro N1 hN1
    refine w_iconst ta_54 rfl ?_
    refine w_istn_2_4 ta_54 rfl rfl ?_
    have eo : ∀ r, 0 ≤ r → r < M 3 4 → N1 29 r = ordZ (M 4) (M 3 4) r := fun r r0 r1 => by
      have ob := ordZ_b (M 4) r0 r1
      rw [hN1, sc_n _ _ (by decide), hN, sc_s]
      have := ofF_at (M 4) (M 29) ob.1 ob.2.1 (M 3 4).toNat (by omega) (by omega)
      rw [ob.2.2] at this
      exact this
    have q := lp_byWeakest2 D M hI N1 (N1 28) (fun g g0 g1 => by rw [hN1, sc_s]; exact if_pos ⟨g0, g1⟩) (by rw [hN1, sc_n _ _ (by decide), e3]) (by rw [hN1, sc_n _ _ (by decide), e4]) eo 0 (by omega) n0 none rfl
    rw [show wkH (M 4) (M 3 4) (M 3 5) (N1 28) (N1 27) (0 : Int).toNat = N1 27 from rfl, show wkS (M 4) (M 3 4) (M 3 5) (N1 28) (0 : Int).toNat = N1 28 from rfl, sc_id, sc_id] at q
    refine q.imp ?_
    rintro r M2 ⟨hr, hM2⟩
    refine ⟨hr, fun c hc => ?_, fun i i0 i1 => ?_⟩
    · rw [hM2, sc_n _ _ (by omega), sc_n _ _ (by omega), hN1, sc_n _ _ (by omega), hN, sc_n _ _ (by omega)]
    · rw [hM2, sc_n _ _ (by decide), sc_s]
      have rb := rkZ_b (M 4) i0 i1
      exact wkH_cg (by omega) (fun g g0 g1 => by rw [hN1, sc_s]; exact if_pos ⟨g0, by omega⟩) (fun _ _ _ => rfl) _ (by omega) i i0 i1 (by omega)
