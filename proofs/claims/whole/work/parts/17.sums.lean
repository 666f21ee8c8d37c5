/-! sums, least, greatest -/
def sumN (f : Int → Int) : Nat → Int
  | 0 => 0
  | n + 1 => sumN f n + f n
def sumZ (f : Int → Int) (n : Int) : Int := sumN f n.toNat
theorem sumZ_0 (f : Int → Int) : sumZ f 0 = 0 := rfl
theorem sumZ_s (f : Int → Int) {i : Int} (h : 0 ≤ i) : sumZ f (i + 1) = sumZ f i + f i := by
  obtain ⟨n, rfl⟩ := Int.eq_ofNat_of_zero_le h
  rfl
theorem loopZ {P : Int → Prop} (n : Int) (hs : ∀ i, 0 ≤ i → i ≤ n → (i < n → P (i + 1)) → P i) : ∀ i, 0 ≤ i → i ≤ n → P i := by
  have key : ∀ (d : Nat) (i : Int), 0 ≤ i → i ≤ n → n - i = d → P i := by
    intro d
    induction d with
    | zero => intro i h0 h1 h2; exact hs i h0 h1 (fun h => by omega)
    | succ d ih => intro i h0 h1 h2; exact hs i h0 h1 (fun h => ih (i + 1) (by omega) (by omega) (by omega))
  intro i h0 h1
  exact key (n - i).toNat i h0 h1 (by omega)
set_option maxHeartbeats 4000000 in
set_option maxRecDepth 20000 in
theorem lp_total (D c m : Nat) (n : Int) (M : Mem) (hc : arrN 0 c = some m) (hm : m < 2147483648) (hn : n ≤ m) : ∀ i : Int, 0 ≤ i → i ≤ n → Wp D 101 (4, [some (.inr (.inr c)), some (.inl n), some (.inl (sumZ (M c) i)), some (.inl i)], [], M) (fun r M' => ∃ v, r = some (.inl v) ∧ (v = sumZ (M c) n ∧ M' = M)) := by
  refine loopZ n ?_
  intro i h0 h1 ih
  refine w_iload_n ta_101 rfl rfl ?_
  refine w_iload_n ta_101 rfl rfl ?_
  refine w_icmp_ge ta_101 rfl ⟨by omega, by omega⟩ ⟨by omega, by omega⟩ (fun h6 => ?_) (fun h6 => ?_)
  · refine w_iload_n ta_101 rfl rfl ?_
    refine w_iret ta_101 rfl (Or.inl rfl) ?_
    exact ⟨_, rfl, by rw [show i = n by omega], rfl⟩
  · refine w_iload_n ta_101 rfl rfl ?_
    refine w_aload_n ta_101 rfl rfl ?_
    refine w_iload_n ta_101 rfl rfl ?_
    refine w_iaload ta_101 rfl hc (by omega) (by omega) (by omega) ?_
    refine w_iadd ta_101 rfl ?_
    refine w_istn_2_4 ta_101 rfl rfl ?_
    refine w_iinc_3_4 ta_101 rfl rfl ?_
    refine w_goto ta_101 rfl ?_
    rw [← sumZ_s _ h0]
    exact ih h6
set_option maxHeartbeats 4000000 in
set_option maxRecDepth 20000 in
theorem c_total (D c m : Nat) (n : Int) (M : Mem) (hc : arrN 0 c = some m) (hm : m < 2147483648) (h0 : 0 ≤ n) (hn : n ≤ m) : CI D 101 [.inr (.inr c), .inl n] M (fun v M' => v = sumZ (M c) n ∧ M' = M) := by
  refine mk_C mt_101 rfl (Nat.le_of_ble_eq_true rfl) (L := [some _, some _, none, none]) rfl ?_
  refine w_iconst ta_101 rfl ?_
  refine w_istn_2_4 ta_101 rfl rfl ?_
  refine w_iconst ta_101 rfl ?_
  refine w_istn_3_4 ta_101 rfl rfl ?_
  exact lp_total D c m n M hc hm hn 0 (by omega) h0
