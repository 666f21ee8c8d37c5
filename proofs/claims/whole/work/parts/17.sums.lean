/-! sums, least, greatest -/
def sumN (f : Int → Int) : Nat → Int
  | 0 => 0
  | n + 1 => sumN f n + f n
def sumZ (f : Int → Int) (n : Int) : Int := sumN f n.toNat
theorem sumZ_0 (f : Int → Int) : sumZ f 0 = 0 := rfl
theorem sumZ_s (f : Int → Int) {i : Int} (h : 0 ≤ i) : sumZ f (i + 1) = sumZ f i + f i := by
  obtain ⟨n, rfl⟩ := Int.eq_ofNat_of_zero_le h
  rfl
theorem sumN_cg {f g : Int → Int} : ∀ n : Nat, (∀ i : Int, 0 ≤ i → i < n → f i = g i) → sumN f n = sumN g n
  | 0, _ => rfl
  | n + 1, h => by rw [sumN, sumN, sumN_cg n (fun i h0 h1 => h i h0 (by omega)), h n (by omega) (by omega)]
theorem sumZ_cg {f g : Int → Int} {n : Int} (h : ∀ i, 0 ≤ i → i < n → f i = g i) : sumZ f n = sumZ g n := sumN_cg _ (fun i h0 h1 => h i h0 (by omega))
theorem sumN_b {f : Int → Int} {a b : Int} (hab : a ≤ 0 ∧ 0 ≤ b) : ∀ n : Nat, (∀ i : Int, 0 ≤ i → i < n → a ≤ f i ∧ f i ≤ b) → a * n ≤ sumN f n ∧ sumN f n ≤ b * n
  | 0, _ => by simp [sumN]
  | n + 1, h => by
    have h1 := sumN_b hab n (fun i h0 h1 => h i h0 (by omega))
    have h2 := h n (by omega) (by omega)
    have e1 : a * ((n + 1 : Nat) : Int) = a * n + a := by rw [Int.natCast_add]; exact Int.mul_add a n 1 |>.trans (by rw [Int.mul_one])
    have e2 : b * ((n + 1 : Nat) : Int) = b * n + b := by rw [Int.natCast_add]; exact Int.mul_add b n 1 |>.trans (by rw [Int.mul_one])
    rw [sumN, e1, e2]
    omega
theorem sumZ_b {f : Int → Int} {n : Int} (b : Int) (hn : n ≤ 16) (hb : 0 ≤ b) (h : ∀ i, 0 ≤ i → i < n → 0 ≤ f i ∧ f i ≤ b) : 0 ≤ sumZ f n ∧ sumZ f n ≤ 16 * b := by
  have h1 := sumN_b (f := f) (a := 0) (b := b) ⟨by omega, hb⟩ n.toNat (fun i h0 h1 => h i h0 (by omega))
  unfold sumZ
  have h2 : b * (n.toNat : Int) ≤ b * 16 := Int.mul_le_mul_of_nonneg_left (by omega) hb
  omega
theorem loopZ {P : Int → Prop} (n : Int) (hs : ∀ i, 0 ≤ i → i ≤ n → (i < n → P (i + 1)) → P i) : ∀ i, 0 ≤ i → i ≤ n → P i := by
  have key : ∀ (d : Nat) (i : Int), 0 ≤ i → i ≤ n → n - i = d → P i := by
    intro d
    induction d with
    | zero => intro i h0 h1 h2; exact hs i h0 h1 (fun h => by omega)
    | succ d ih => intro i h0 h1 h2; exact hs i h0 h1 (fun h => ih (i + 1) (by omega) (by omega) (by omega))
  intro i h0 h1
  exact key (n - i).toNat i h0 h1 (by omega)
/-! memory -/
theorem sc_s (M : Mem) (c : Nat) (g : Int → Int) : setC M c g c = g := if_pos rfl
theorem sc_n (M : Mem) {c d : Nat} (g : Int → Int) (h : d ≠ c) : setC M c g d = M d := if_neg h
theorem sc_id (M : Mem) (c : Nat) : setC M c (M c) = M := by
  funext d
  by_cases h : d = c
  · subst h; exact sc_s _ _ _
  · exact sc_n _ _ h
theorem sc_sc (M : Mem) (c : Nat) (g k : Int → Int) : setC (setC M c g) c k = setC M c k := by
  funext d
  by_cases h : d = c
  · subst h; rw [sc_s, sc_s]
  · rw [sc_n _ _ h, sc_n _ _ h, sc_n _ _ h]
theorem sc_comm (M : Mem) {c d : Nat} (g k : Int → Int) (h : c ≠ d) : setC (setC M c g) d k = setC (setC M d k) c g := by
  funext x
  by_cases h1 : x = c
  · subst h1; rw [sc_n _ _ h, sc_s, sc_s]
  · by_cases h2 : x = d
    · subst h2; rw [sc_s, sc_n _ _ h1, sc_s]
    · rw [sc_n _ _ h2, sc_n _ _ h1, sc_n _ _ h1, sc_n _ _ h2]
theorem wr_s (M : Mem) (c : Nat) (i v : Int) : wr M c i v c = upI (M c) i v := sc_s _ _ _
theorem wr_n (M : Mem) {c d : Nat} (i v : Int) (h : d ≠ c) : wr M c i v d = M d := sc_n _ _ h
theorem wr_sc (M : Mem) (c : Nat) (g : Int → Int) (i v : Int) : wr (setC M c g) c i v = setC M c (upI g i v) := by
  unfold wr
  rw [sc_s, sc_sc]
theorem up_s (f : Int → Int) (i v : Int) : upI f i v i = v := if_pos rfl
theorem up_n (f : Int → Int) {i j : Int} (v : Int) (h : j ≠ i) : upI f i v j = f j := if_neg h
/-- f, but v below n -/
def filF (f : Int → Int) (v n : Int) : Int → Int := fun j => if 0 ≤ j ∧ j < n then v else f j
theorem filF_0 (f : Int → Int) (v : Int) : filF f v 0 = f := by funext j; exact if_neg (by omega)
theorem filF_s (f : Int → Int) (v : Int) {i : Int} (h : 0 ≤ i) : upI (filF f v i) i v = filF f v (i + 1) := by
  funext j
  unfold upI filF
  by_cases e : j = i
  · rw [if_pos e, if_pos (by omega)]
  · rw [if_neg e]
    by_cases h2 : 0 ≤ j ∧ j < i
    · rw [if_pos h2, if_pos (by omega)]
    · rw [if_neg h2, if_neg (by omega)]
/-- what the cells of group g have, of the first n -/
def sumG (v h : Int → Int) (n g : Int) : Int := sumZ (fun i => if h i = g then v i else 0) n
theorem sumG_s (v h : Int → Int) {i : Int} (g : Int) (h0 : 0 ≤ i) : sumG v h (i + 1) g = sumG v h i g + if h i = g then v i else 0 := sumZ_s _ h0
theorem sumG_cg {v v' h h' : Int → Int} {n : Int} (g : Int) (hv : ∀ i, 0 ≤ i → i < n → v i = v' i) (hh : ∀ i, 0 ≤ i → i < n → h i = h' i) : sumG v h n g = sumG v' h' n g := sumZ_cg (fun i h0 h1 => by rw [hv i h0 h1, hh i h0 h1])
theorem sumG_b {v h : Int → Int} {n : Int} (b g : Int) (hn : n ≤ 16) (hb : 0 ≤ b) (hv : ∀ i, 0 ≤ i → i < n → 0 ≤ v i ∧ v i ≤ b) : 0 ≤ sumG v h n g ∧ sumG v h n g ≤ 16 * b := sumZ_b b hn hb (fun i h0 h1 => by
  have := hv i h0 h1
  split <;> omega)
/-- the sums of groups 0 to m less 1 over f -/
def smF (f v h : Int → Int) (m n : Int) : Int → Int := fun g => if 0 ≤ g ∧ g < m then sumG v h n g else f g
theorem smF_0 (f v h : Int → Int) (m : Int) : filF f 0 m = smF f v h m 0 := rfl
theorem smF_at {f v h : Int → Int} {m n g : Int} (h0 : 0 ≤ g) (h1 : g < m) : smF f v h m n g = sumG v h n g := if_pos ⟨h0, h1⟩
theorem smF_s (f v h : Int → Int) {m i : Int} (h0 : 0 ≤ i) (h1 : 0 ≤ h i) (h2 : h i < m) : upI (smF f v h m i) (h i) (smF f v h m i (h i) + v i) = smF f v h m (i + 1) := by
  funext g
  by_cases e : g = h i
  · subst e
    rw [up_s, smF_at h1 h2, smF_at h1 h2, sumG_s _ _ _ h0, if_pos rfl]
  · rw [up_n _ _ e]
    unfold smF
    rw [sumG_s _ _ _ h0, if_neg (Ne.symm e), Int.add_zero]
/-- the first place of the least of the first k -/
def flN (s : Int → Int) : Nat → Int
  | 0 => 0
  | n + 1 => if s ((n + 1 : Nat) : Int) < s (flN s n) then ((n + 1 : Nat) : Int) else flN s n
def flZ (s : Int → Int) (k : Int) : Int := flN s (k - 1).toNat
theorem flZ_1 (s : Int → Int) : flZ s 1 = 0 := rfl
theorem flZ_s (s : Int → Int) {g : Int} (h : 1 ≤ g) : flZ s (g + 1) = if s g < s (flZ s g) then g else flZ s g := by
  obtain ⟨n, hn⟩ := Int.eq_ofNat_of_zero_le (show 0 ≤ g - 1 by omega)
  have e1 : g = ((n + 1 : Nat) : Int) := by omega
  have e2 : (g + 1 - 1).toNat = n + 1 := by omega
  have e3 : (g - 1).toNat = n := by omega
  unfold flZ
  rw [e2, e3, flN, ← e1]
theorem flN_b (s : Int → Int) : ∀ n : Nat, 0 ≤ flN s n ∧ flN s n ≤ n
  | 0 => ⟨Int.le_refl _, Int.le_refl _⟩
  | n + 1 => by
    have := flN_b s n
    unfold flN
    split <;> omega
theorem flZ_b (s : Int → Int) {k : Int} (h : 1 ≤ k) : 0 ≤ flZ s k ∧ flZ s k < k := by
  have := flN_b s (k - 1).toNat
  unfold flZ
  omega
theorem flN_cg {s s' : Int → Int} : ∀ n : Nat, (∀ g : Int, 0 ≤ g → g ≤ n → s g = s' g) → flN s n = flN s' n
  | 0, _ => rfl
  | n + 1, h => by
    have ih := flN_cg n (fun g h0 h1 => h g h0 (by omega))
    have b := flN_b s' n
    rw [flN, flN, ih, h _ (by omega) (by omega), h (flN s' n) b.1 (by omega)]
theorem flZ_cg {s s' : Int → Int} {k : Int} (hk : 1 ≤ k) (h : ∀ g, 0 ≤ g → g < k → s g = s' g) : flZ s k = flZ s' k := flN_cg _ (fun g h0 h1 => h g h0 (by omega))
/-- the greatest of the first k -/
def grN (s : Int → Int) : Nat → Int
  | 0 => s 0
  | n + 1 => if grN s n < s ((n + 1 : Nat) : Int) then s ((n + 1 : Nat) : Int) else grN s n
def grZ (s : Int → Int) (k : Int) : Int := grN s (k - 1).toNat
theorem grZ_1 (s : Int → Int) : grZ s 1 = s 0 := rfl
theorem grZ_s (s : Int → Int) {g : Int} (h : 1 ≤ g) : grZ s (g + 1) = if grZ s g < s g then s g else grZ s g := by
  obtain ⟨n, hn⟩ := Int.eq_ofNat_of_zero_le (show 0 ≤ g - 1 by omega)
  have e1 : g = ((n + 1 : Nat) : Int) := by omega
  have e2 : (g + 1 - 1).toNat = n + 1 := by omega
  have e3 : (g - 1).toNat = n := by omega
  unfold grZ
  rw [e2, e3, grN, ← e1]
theorem grN_b {s : Int → Int} {a b : Int} : ∀ n : Nat, (∀ g : Int, 0 ≤ g → g ≤ n → a ≤ s g ∧ s g ≤ b) → a ≤ grN s n ∧ grN s n ≤ b
  | 0, h => h 0 (by omega) (by omega)
  | n + 1, h => by
    have h1 := grN_b n (fun g h0 h1 => h g h0 (by omega))
    have h2 := h ((n + 1 : Nat) : Int) (by omega) (by omega)
    unfold grN
    split <;> omega
theorem grZ_b {s : Int → Int} {a b k : Int} (hk : 1 ≤ k) (h : ∀ g, 0 ≤ g → g < k → a ≤ s g ∧ s g ≤ b) : a ≤ grZ s k ∧ grZ s k ≤ b := grN_b _ (fun g h0 h1 => h g h0 (by omega))
theorem grN_cg {s s' : Int → Int} : ∀ n : Nat, (∀ g : Int, 0 ≤ g → g ≤ n → s g = s' g) → grN s n = grN s' n
  | 0, h => h 0 (by omega) (by omega)
  | n + 1, h => by rw [grN, grN, grN_cg n (fun g h0 h1 => h g h0 (by omega)), h _ (by omega) (by omega)]
theorem grZ_cg {s s' : Int → Int} {k : Int} (hk : 1 ≤ k) (h : ∀ g, 0 ≤ g → g < k → s g = s' g) : grZ s k = grZ s' k := grN_cg _ (fun g h0 h1 => h g h0 (by omega))
theorem loopO {P : Int → Prop} (a n : Int) (hs : ∀ i, a ≤ i → i ≤ n → (i < n → P (i + 1)) → P i) : ∀ i, a ≤ i → i ≤ n → P i := by
  have key : ∀ (d : Nat) (i : Int), a ≤ i → i ≤ n → n - i = d → P i := by
    intro d
    induction d with
    | zero => intro i h0 h1 h2; exact hs i h0 h1 (fun h => by omega)
    | succ d ih => intro i h0 h1 h2; exact hs i h0 h1 (fun h => ih (i + 1) (by omega) (by omega) (by omega))
  intro i h0 h1
  exact key (n - i).toNat i h0 h1 (by omega)
set_option maxHeartbeats 4000000 in
set_option maxRecDepth 20000 in
theorem lp_total (D c m : Nat) (n : Int) (M : Mem) (hc : arrN 0 c = some m) (hm : m < 2147483648) (hn : n ≤ m) : ∀ i : Int, 0 ≤ i → i ≤ n → Wp D 101 (4, [some (.inr (.inr c)), some (.inl n), some (.inl (sumZ (M c) i)), some (.inl i)], [], M) (fun r M' => ∃ v, r = some (.inl v) ∧ (v = sumZ (M c) n ∧ M' = M)) := by
  refine loopZ n ?_
  intro i h0 h1 ih
  refine w_iload_n ta_101 rfl rfl ?_
  refine w_iload_n ta_101 rfl rfl ?_
  refine w_icmp_ge ta_101 rfl ⟨by omega, by omega⟩ ⟨by omega, by omega⟩ (fun h6 => ?_) (fun h6 => ?_)
  · refine w_iload_n ta_101 rfl rfl ?_
    refine w_iret ta_101 rfl (Or.inl rfl) ?_
    exact ⟨_, rfl, by rw [show i = n by omega], rfl⟩
  · refine w_iload_n ta_101 rfl rfl ?_
    refine w_aload_n ta_101 rfl rfl ?_
    refine w_iload_n ta_101 rfl rfl ?_
    refine w_iaload ta_101 rfl hc (by omega) (by omega) (by omega) ?_
    refine w_iadd ta_101 rfl ?_
    refine w_istn_2_4 ta_101 rfl rfl ?_
    refine w_iinc_3_4 ta_101 rfl rfl ?_
    refine w_goto ta_101 rfl ?_
    rw [← sumZ_s _ h0]
    exact ih h6
set_option maxHeartbeats 4000000 in
set_option maxRecDepth 20000 in
theorem c_total (D c m : Nat) (n : Int) (M : Mem) (hc : arrN 0 c = some m) (hm : m < 2147483648) (h0 : 0 ≤ n) (hn : n ≤ m) : CI D 101 [.inr (.inr c), .inl n] M (fun v M' => v = sumZ (M c) n ∧ M' = M) := by
  refine mk_C mt_101 rfl (Nat.le_of_ble_eq_true rfl) (L := [some _, some _, none, none]) rfl ?_
  refine w_iconst ta_101 rfl ?_
  refine w_istn_2_4 ta_101 rfl rfl ?_
  refine w_iconst ta_101 rfl ?_
  refine w_istn_3_4 ta_101 rfl rfl ?_
  exact lp_total D c m n M hc hm hn 0 (by omega) h0
set_option maxHeartbeats 4000000 in
set_option maxRecDepth 20000 in
theorem c_within (D : Nat) (v a b : Int) (M : Mem) (hv : inR v) (ha : inR a) (hb : inR b) : CI D 89 [.inl v, .inl a, .inl b] M (fun r M' => r = (if a ≤ v ∧ v ≤ b then 1 else 0) ∧ M' = M) := by
  refine mk_C mt_89 rfl (Nat.le_of_ble_eq_true rfl) (L := [some _, some _, some _]) rfl ?_
  refine w_iload_n ta_89 rfl rfl ?_
  refine w_iload_n ta_89 rfl rfl ?_
  refine w_icmp_lt ta_89 rfl (by assumption) (by assumption) (fun h2 => ?_) (fun h2 => ?_)
  · refine w_iconst ta_89 rfl ?_
    refine w_iret ta_89 rfl (Or.inr ⟨rfl, by omega⟩) ?_
    exact ⟨_, rfl, by first | rw [if_pos (by omega)] | rw [if_neg (by omega)], rfl⟩
  · refine w_iload_n ta_89 rfl rfl ?_
    refine w_iload_n ta_89 rfl rfl ?_
    refine w_icmp_gt ta_89 rfl (by assumption) (by assumption) (fun h7 => ?_) (fun h7 => ?_)
    · refine w_iconst ta_89 rfl ?_
      refine w_iret ta_89 rfl (Or.inr ⟨rfl, by omega⟩) ?_
      exact ⟨_, rfl, by first | rw [if_pos (by omega)] | rw [if_neg (by omega)], rfl⟩
    · refine w_iconst ta_89 rfl ?_
      refine w_goto ta_89 rfl ?_
      refine w_iret ta_89 rfl (Or.inr ⟨rfl, by omega⟩) ?_
      exact ⟨_, rfl, by first | rw [if_pos (by omega)] | rw [if_neg (by omega)], rfl⟩
set_option maxHeartbeats 4000000 in
set_option maxRecDepth 20000 in
theorem lp_fill (D c m : Nat) (v : Int) (M : Mem) (hc : arrN 0 c = some m) (hm : m < 2147483648) : ∀ i : Int, 0 ≤ i → i ≤ m → Wp D 196 (5, [some (.inr (.inr c)), some (.inl v), some (.inl i), some (.inl (m : Int))], [], setC M c (filF (M c) v i)) (fun r M' => r = none ∧ M' = setC M c (filF (M c) v m)) := by
  refine loopZ m ?_
  intro i h0 h1 ih
  refine w_iload_n ta_196 rfl rfl ?_
  refine w_iload_n ta_196 rfl rfl ?_
  refine w_icmp_ge ta_196 rfl ⟨by omega, by omega⟩ ⟨by omega, by omega⟩ (fun h7 => ?_) (fun h7 => ?_)
  · refine w_vret ta_196 rfl ?_
    exact ⟨rfl, by rw [show i = (m : Int) by omega]⟩
  · refine w_aload_n ta_196 rfl rfl ?_
    refine w_iload_n ta_196 rfl rfl ?_
    refine w_iload_n ta_196 rfl rfl ?_
    refine w_iastore ta_196 rfl hc (by omega) (by omega) (by omega) ?_
    refine w_iinc_2_4 ta_196 rfl rfl ?_
    refine w_goto ta_196 rfl ?_
    rw [wr_sc, filF_s _ _ h0]
    exact ih h7
set_option maxHeartbeats 4000000 in
set_option maxRecDepth 20000 in
theorem c_fill (D c m : Nat) (v : Int) (M : Mem) (hc : arrN 0 c = some m) (hm : m < 2147483648) : CV D 196 [.inr (.inr c), .inl v] M (fun M' => M' = setC M c (filF (M c) v m)) := by
  refine mk_C mt_196 rfl (Nat.le_of_ble_eq_true rfl) (L := [some _, some _, none, none]) rfl ?_
  refine w_iconst ta_196 rfl ?_
  refine w_istn_2_4 ta_196 rfl rfl ?_
  refine w_aload_n ta_196 rfl rfl ?_
  refine w_alen ta_196 rfl hc ?_
  refine w_istn_3_4 ta_196 rfl rfl ?_
  have q := lp_fill D c m v M hc hm 0 (by omega) (by omega)
  rw [filF_0, sc_id] at q
  exact q
set_option maxHeartbeats 4000000 in
set_option maxRecDepth 20000 in
theorem lp_sumUp (D cv ch cs m mv mh : Nat) (n : Int) (M : Mem) (hv : arrN 0 cv = some mv) (hh : arrN 0 ch = some mh) (hs : arrN 0 cs = some m) (hm : m < 2147483648) (hmv : mv < 2147483648) (hmh : mh < 2147483648) (n1 : cv ≠ cs) (n2 : ch ≠ cs) (hn : n ≤ mv) (hn2 : n ≤ mh) (hb : ∀ i, 0 ≤ i → i < n → 0 ≤ M ch i ∧ M ch i < m) : ∀ i : Int, 0 ≤ i → i ≤ n → Wp D 102 (8, [some (.inr (.inr cv)), some (.inr (.inr ch)), some (.inl n), some (.inr (.inr cs)), some (.inl i)], [], setC M cs (smF (M cs) (M cv) (M ch) m i)) (fun r M' => r = none ∧ M' = setC M cs (smF (M cs) (M cv) (M ch) m n)) := by
  refine loopZ n ?_
  intro i h0 h1 ih
  refine w_iload ta_102 rfl rfl ?_
  refine w_iload_n ta_102 rfl rfl ?_
  refine w_icmp_ge ta_102 rfl ⟨by omega, by omega⟩ ⟨by omega, by omega⟩ (fun h11 => ?_) (fun h11 => ?_)
  · refine w_vret ta_102 rfl ?_
    exact ⟨rfl, by rw [show i = n by omega]⟩
  · refine w_aload_n ta_102 rfl rfl ?_
    refine w_aload_n ta_102 rfl rfl ?_
    refine w_iload ta_102 rfl rfl ?_
    have hbi := hb i h0 h11
    refine w_iaload ta_102 rfl (by assumption) (by omega) (by omega) (by omega) ?_
    rw [sc_n _ _ n2]
    refine w_dup2 ta_102 rfl rfl rfl ?_
    refine w_iaload ta_102 rfl (by assumption) (by omega) (by omega) (by omega) ?_
    refine w_aload_n ta_102 rfl rfl ?_
    refine w_iload ta_102 rfl rfl ?_
    refine w_iaload ta_102 rfl (by assumption) (by omega) (by omega) (by omega) ?_
    rw [sc_n _ _ n1, sc_s]
    refine w_iadd ta_102 rfl ?_
    refine w_iastore ta_102 rfl (by assumption) (by omega) (by omega) (by omega) ?_
    refine w_iinc_4_5 ta_102 rfl rfl ?_
    refine w_goto ta_102 rfl ?_
    rw [wr_sc, smF_s _ _ _ h0 hbi.1 hbi.2]
    exact ih h11
set_option maxHeartbeats 4000000 in
set_option maxRecDepth 20000 in
theorem c_sumUp (D cv ch cs m mv mh : Nat) (n : Int) (M : Mem) (hv : arrN 0 cv = some mv) (hh : arrN 0 ch = some mh) (hs : arrN 0 cs = some m) (hm : m < 2147483648) (hmv : mv < 2147483648) (hmh : mh < 2147483648) (n1 : cv ≠ cs) (n2 : ch ≠ cs) (hn : n ≤ mv) (hn2 : n ≤ mh) (hb : ∀ i, 0 ≤ i → i < n → 0 ≤ M ch i ∧ M ch i < m) (h0 : 0 ≤ n) : CV (D + 1) 102 [.inr (.inr cv), .inr (.inr ch), .inl n, .inr (.inr cs)] M (fun M' => M' = setC M cs (smF (M cs) (M cv) (M ch) m n)) := by
  refine mk_C mt_102 rfl (Nat.le_of_ble_eq_true rfl) (L := [some _, some _, some _, some _, none]) rfl ?_
  refine w_aload_n ta_102 rfl rfl ?_
  refine w_iconst ta_102 rfl ?_
  refine w_cV [_, _] _ ta_102 rfl rfl rfl mt_196 rfl rfl rfl rfl (Nat.le_of_ble_eq_true rfl) (fun q => by cases q) rfl (c_fill D cs m 0 M hs hm) ?_
  rintro _ rfl
  refine w_iconst ta_102 rfl ?_
  refine w_ist_4_5 ta_102 rfl rfl ?_
  have q := lp_sumUp (D + 1) cv ch cs m mv mh n M hv hh hs hm hmv hmh n1 n2 hn hn2 hb 0 (by omega) h0
  rw [← smF_0] at q
  exact q
set_option maxHeartbeats 4000000 in
set_option maxRecDepth 20000 in
theorem lp_firstLeast (D c m : Nat) (k : Int) (M : Mem) (hc : arrN 0 c = some m) (hm : m < 2147483648) (hk : k ≤ m) (hr : ∀ g, 0 ≤ g → g < k → inR (M c g)) : ∀ i : Int, 1 ≤ i → i ≤ k → Wp D 103 (4, [some (.inr (.inr c)), some (.inl k), some (.inl (flZ (M c) i)), some (.inl i)], [], M) (fun r M' => ∃ v, r = some (.inl v) ∧ (v = flZ (M c) k ∧ M' = M)) := by
  refine loopO 1 k ?_
  intro i h0 h1 ih
  refine w_iload_n ta_103 rfl rfl ?_
  refine w_iload_n ta_103 rfl rfl ?_
  refine w_icmp_ge ta_103 rfl ⟨by omega, by omega⟩ ⟨by omega, by omega⟩ (fun h6 => ?_) (fun h6 => ?_)
  · refine w_iload_n ta_103 rfl rfl ?_
    refine w_iret ta_103 rfl (Or.inl rfl) ?_
    exact ⟨_, rfl, by rw [show i = k by omega], rfl⟩
  · obtain ⟨b1, b2⟩ := hr i (by omega) h6
    have b3 := flZ_b (M c) h0
    obtain ⟨b4, b5⟩ := hr (flZ (M c) i) b3.1 (by omega)
    have e := flZ_s (M c) h0
    refine w_aload_n ta_103 rfl rfl ?_
    refine w_iload_n ta_103 rfl rfl ?_
    refine w_iaload ta_103 rfl hc (by omega) (by omega) (by omega) ?_
    refine w_aload_n ta_103 rfl rfl ?_
    refine w_iload_n ta_103 rfl rfl ?_
    refine w_iaload ta_103 rfl hc (by omega) (by omega) (by omega) ?_
    refine w_icmp_ge ta_103 rfl ⟨by omega, by omega⟩ ⟨by omega, by omega⟩ (fun h15 => ?_) (fun h15 => ?_)
    · rw [if_neg (by omega)] at e
      refine w_iinc_3_4 ta_103 rfl rfl ?_
      refine w_goto ta_103 rfl ?_
      rw [e] at ih
      exact ih h6
    · rw [if_pos (by omega)] at e
      refine w_iload_n ta_103 rfl rfl ?_
      refine w_istn_2_4 ta_103 rfl rfl ?_
      refine w_iinc_3_4 ta_103 rfl rfl ?_
      refine w_goto ta_103 rfl ?_
      rw [e] at ih
      exact ih h6
set_option maxHeartbeats 4000000 in
set_option maxRecDepth 20000 in
theorem c_firstLeast (D c m : Nat) (k : Int) (M : Mem) (hc : arrN 0 c = some m) (hm : m < 2147483648) (hk : k ≤ m) (hr : ∀ g, 0 ≤ g → g < k → inR (M c g)) (h1 : 1 ≤ k) : CI D 103 [.inr (.inr c), .inl k] M (fun v M' => v = flZ (M c) k ∧ M' = M) := by
  refine mk_C mt_103 rfl (Nat.le_of_ble_eq_true rfl) (L := [some _, some _, none, none]) rfl ?_
  refine w_iconst ta_103 rfl ?_
  refine w_istn_2_4 ta_103 rfl rfl ?_
  refine w_iconst ta_103 rfl ?_
  refine w_istn_3_4 ta_103 rfl rfl ?_
  exact lp_firstLeast D c m k M hc hm hk hr 1 (by omega) h1
set_option maxHeartbeats 4000000 in
set_option maxRecDepth 20000 in
theorem lp_greatest (D c m : Nat) (k : Int) (M : Mem) (hc : arrN 0 c = some m) (hm : m < 2147483648) (hk : k ≤ m) (hr : ∀ g, 0 ≤ g → g < k → inR (M c g)) : ∀ i : Int, 1 ≤ i → i ≤ k → inR (grZ (M c) i) → Wp (D + 4) 104 (6, [some (.inr (.inr c)), some (.inl k), some (.inl (grZ (M c) i)), some (.inl i)], [], M) (fun r M' => ∃ v, r = some (.inl v) ∧ (v = grZ (M c) k ∧ M' = M)) := by
  refine loopO 1 k ?_
  intro i h0 h1 ih hg
  refine w_iload_n ta_104 rfl rfl ?_
  refine w_iload_n ta_104 rfl rfl ?_
  refine w_icmp_ge ta_104 rfl ⟨by omega, by omega⟩ ⟨by omega, by omega⟩ (fun h8 => ?_) (fun h8 => ?_)
  · refine w_iload_n ta_104 rfl rfl ?_
    refine w_iret ta_104 rfl (Or.inl rfl) ?_
    exact ⟨_, rfl, by rw [show i = k by omega], rfl⟩
  · obtain ⟨b1, b2⟩ := hr i (by omega) h8
    obtain ⟨b3, b4⟩ := hg
    have e := grZ_s (M c) h0
    have ih2 := ih h8
    rw [e] at ih2
    refine w_iload_n ta_104 rfl rfl ?_
    refine w_aload_n ta_104 rfl rfl ?_
    refine w_iload_n ta_104 rfl rfl ?_
    refine w_iaload ta_104 rfl hc (by omega) (by omega) (by omega) ?_
    refine w_max ta_104 rfl ⟨by omega, by omega⟩ ⟨by omega, by omega⟩ (Nat.le_of_ble_eq_true rfl) ?_
    refine w_istn_2_4 ta_104 rfl rfl ?_
    refine w_iinc_3_4 ta_104 rfl rfl ?_
    refine w_goto ta_104 rfl ?_
    exact ih2 (by split <;> omega)
set_option maxHeartbeats 4000000 in
set_option maxRecDepth 20000 in
theorem c_greatest (D c m : Nat) (k : Int) (M : Mem) (hc : arrN 0 c = some m) (hm : m < 2147483648) (hk : k ≤ m) (hr : ∀ g, 0 ≤ g → g < k → inR (M c g)) (h1 : 1 ≤ k) : CI (D + 4) 104 [.inr (.inr c), .inl k] M (fun v M' => v = grZ (M c) k ∧ M' = M) := by
  refine mk_C mt_104 rfl (Nat.le_of_ble_eq_true rfl) (L := [some _, some _, none, none]) rfl ?_
  refine w_aload_n ta_104 rfl rfl ?_
  refine w_iconst ta_104 rfl ?_
  refine w_iaload ta_104 rfl hc (by omega) (by omega) (by omega) ?_
  refine w_istn_2_4 ta_104 rfl rfl ?_
  refine w_iconst ta_104 rfl ?_
  refine w_istn_3_4 ta_104 rfl rfl ?_
  exact lp_greatest D c m k M hc hm hk hr 1 (by omega) h1 (hr 0 (by omega) (by omega))
