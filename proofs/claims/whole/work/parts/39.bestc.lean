/-! way 3, the class -/
theorem jd_nn {ch tr : Int → Int} {n k : Int} (hn : n ≤ 16) (hc : ∀ i, 0 ≤ i → i < n → 1 ≤ ch i ∧ ch i ≤ 999) (hk : 1 ≤ k) (a : Acc) : 0 ≤ (jd ch n k tr a).1 := by
  have l := lsG_b (tr := tr) hn hc k hk
  unfold jd
  by_cases e : a.1 < lsZ (fun g => sumG ch tr n g) k ∨ (lsZ (fun g => sumG ch tr n g) k = a.1 ∧ grZ (fun g => sumG ch tr n g) k < a.2.1)
  · rw [if_pos e]; exact l.1
  · rw [if_neg e]; omega
theorem bs_nn {ch : Int → Int} {n k : Int} (hn : n ≤ 16) (hc : ∀ i, 0 ≤ i → i < n → 1 ≤ ch i ∧ ch i ≤ 999) (hk : 1 ≤ k) : ∀ (d : Nat) (tr : Int → Int) (a : Acc), 0 ≤ (bs ch n k d tr a).1
  | 0, _, a => jd_nn hn hc hk a
  | d + 1, tr, a => by
    have cb := cZ_b tr (n - (d + 1)) hk
    obtain ⟨c, hcc⟩ : ∃ c, (cZ tr k (n - (d + 1))).toNat = c + 1 := ⟨(cZ tr k (n - (d + 1))).toNat - 1, by omega⟩
    have f : ∀ (c : Nat) (g : Int) (a : Acc), 0 ≤ a.1 → 0 ≤ (fl (fun g b => bs ch n k d (upI tr (n - (d + 1)) g) b) g c a).1 := by
      intro c
      induction c with
      | zero => intro g a h; exact h
      | succ c ih => intro g a h; exact ih _ _ (bs_nn hn hc hk d _ _)
    rw [bs, hcc, fl]
    exact f _ _ _ (bs_nn hn hc hk d _ _)
theorem opN_le {tr : Int → Int} {k : Int} : ∀ n : Nat, (∀ i : Int, 0 ≤ i → i < n → 0 ≤ tr i ∧ tr i < k) → 0 ≤ k → opN tr n ≤ k
  | 0, _, hk => hk
  | n + 1, h, hk => by
    have := opN_le n (fun i a b => h i a (by omega)) hk
    have := h n (by omega) (by omega)
    rw [opN]
    split <;> omega
theorem opZ_le {tr : Int → Int} {k n : Int} (h : ∀ i, 0 ≤ i → i < n → 0 ≤ tr i ∧ tr i < k) (hk : 0 ≤ k) : opZ tr n ≤ k := opN_le _ (fun i a b => h i a (by omega)) hk
/-- what has been found lies there -/
def AC (N : Mem) (n : Int) (a : Acc) : Prop := N 67 3 = a.1 ∧ N 67 4 = a.2.1 ∧ (0 ≤ a.1 → ∀ i, 0 ≤ i → i < n → N 69 i = a.2.2 i)
theorem AC.of {N Z : Mem} {n : Int} {a : Acc} (h : AC N n a) (e1 : Z 67 = N 67) (e2 : Z 69 = N 69) : AC Z n a := by
  unfold AC
  rw [e1, e2]
  exact h
def TC (M N : Mem) (i : Int) : Prop := (∀ c, c < 67 ∨ 70 < c → N c = M c) ∧ (∀ j, 0 ≤ j → j < i → 0 ≤ N 68 j ∧ N 68 j < M 3 5) ∧ ∀ g, 0 ≤ g → g < 5 → N 70 g = sumG (M 4) (N 68) i g
def TP (M N M' : Mem) (i : Int) : Prop := (∀ c, c < 67 ∨ 70 < c → M' c = M c) ∧ (∀ j, 0 ≤ j → j < i → M' 68 j = N 68 j) ∧ ∀ g, 0 ≤ g → g < 5 → M' 70 g = N 70 g
set_option maxHeartbeats 4000000 in
set_option maxRecDepth 20000 in
theorem lp_lacking (D : Nat) (N : Mem) (k : Int) (k0 : 0 ≤ k) (k1 : k ≤ 5) (hl : -4 ≤ N 67 3 ∧ N 67 3 ≤ 15984) (hs : ∀ g, 0 ≤ g → g < 5 → 0 ≤ N 70 g ∧ N 70 g ≤ 15984) : ∀ i : Int, 0 ≤ i → i ≤ k → Wp (D + 4) 2 (4, [some (.inr (.inr 67)), some (.inl k), some (.inl (sumZ (fun g => if 0 < N 67 3 - N 70 g then N 67 3 - N 70 g else 0) i)), some (.inl i)], [], N) (fun r M' => ∃ v, r = some (.inl v) ∧ (v = lkZ (N 67 3) (N 70) k ∧ M' = N)) := by
  refine loopZ k ?_
  intro i h0 h1 ih
  refine w_iload_n ta_2 rfl rfl ?_
  refine w_iload_n ta_2 rfl rfl ?_
  refine w_icmp_ge ta_2 rfl ⟨by omega, by omega⟩ ⟨by omega, by omega⟩ (fun h6 => ?_) (fun h6 => ?_)
  · refine w_iload_n ta_2 rfl rfl ?_
    refine w_iret ta_2 rfl (Or.inl rfl) ?_
    exact ⟨_, rfl, by rw [show i = k by omega]; rfl, rfl⟩
  · have hg := hs i h0 (by omega)
    have ih := ih h6
    rw [sumZ_s _ h0] at ih
    refine w_iload_n ta_2 rfl rfl ?_
    refine w_iconst ta_2 rfl ?_
    refine w_aload_n ta_2 rfl rfl ?_
    refine w_getI 3 ta_2 rfl rfl rfl ?_
    refine w_aload_n ta_2 rfl rfl ?_
    refine w_getR ta_2 rfl rfl ?_
    refine w_iload_n ta_2 rfl rfl ?_
    refine w_iaload ta_2 rfl rfl (by omega) (by omega) (by omega) ?_
    refine w_isub ta_2 rfl ?_
    refine w_max ta_2 rfl ⟨by omega, by omega⟩ ⟨by omega, by omega⟩ (Nat.le_of_ble_eq_true rfl) ?_
    refine w_iadd ta_2 rfl ?_
    refine w_istn_2_4 ta_2 rfl rfl ?_
    refine w_iinc_3_4 ta_2 rfl rfl ?_
    refine w_goto ta_2 rfl ?_
    exact ih
set_option maxHeartbeats 4000000 in
set_option maxRecDepth 20000 in
theorem c_lacking (D : Nat) (N : Mem) (k : Int) (k0 : 0 ≤ k) (k1 : k ≤ 5) (hl : -4 ≤ N 67 3 ∧ N 67 3 ≤ 15984) (hs : ∀ g, 0 ≤ g → g < 5 → 0 ≤ N 70 g ∧ N 70 g ≤ 15984) : CI (D + 4) 2 [.inr (.inr 67), .inl k] N (fun v M' => v = lkZ (N 67 3) (N 70) k ∧ M' = N) := by
  refine mk_C mt_2 rfl (Nat.le_of_ble_eq_true rfl) (L := [some _, some _, none, none]) rfl ?_
  refine w_iconst ta_2 rfl ?_
  refine w_istn_2_4 ta_2 rfl rfl ?_
  refine w_iconst ta_2 rfl ?_
  refine w_istn_3_4 ta_2 rfl rfl ?_
  exact lp_lacking D N k k0 k1 hl hs 0 (by omega) k0
set_option maxHeartbeats 4000000 in
set_option maxRecDepth 20000 in
theorem c_judge (D : Nat) (M N : Mem) (hI : PkI 3 M) (a : Acc) (hT : TC M N (M 3 4)) (hA2 : AC N (M 3 4) a) (hB : AcB a) : CV (D + 5) 3 [.inr (.inr 67), .inr (.inr 3)] N (fun M' => (∀ c, c ≠ 67 → c ≠ 69 → M' c = N c) ∧ AC M' (M 3 4) (jd (M 4) (M 3 4) (M 3 5) (N 68) a)) := by
  refine mk_C mt_3 rfl (Nat.le_of_ble_eq_true rfl) (L := [some _, some _, none, none]) rfl ?_
  obtain ⟨n0, n1, k0, k1, f0, f1, r0, r1, s0, s1, hA⟩ := pkd_3 hI
  have e3 : N 3 = M 3 := hT.1 3 (by omega)
  obtain ⟨a0, a1, a2, a3⟩ := id hB
  have hc : ∀ i, 0 ≤ i → i < M 3 4 → 1 ≤ M 4 i ∧ M 4 i ≤ 999 := fun i i0 i1 => by have := hA i i0 i1; omega
  have sb : ∀ g, 0 ≤ g → g < 5 → 0 ≤ N 70 g ∧ N 70 g ≤ 15984 := fun g g0 g1 => by rw [hT.2.2 g g0 g1]; exact sG_b n1 hc g
  refine w_aload_n ta_3 rfl rfl ?_
  refine w_getR ta_3 rfl rfl ?_
  refine w_aload_n ta_3 rfl rfl ?_
  refine w_getR ta_3 rfl rfl ?_
  refine w_aload_n ta_3 rfl rfl ?_
  refine w_getIv 5 (v := M 3 5) ta_3 rfl rfl rfl (by rw [e3]) ?_
  refine w_cI [_, _] _ ta_3 rfl rfl rfl mt_103 rfl rfl rfl rfl (Nat.le_of_ble_eq_true rfl) (fun q => by cases q) rfl (c_firstLeast _ 70 5 (M 3 5) N rfl (by decide) k1 (fun g g0 g1 => by have := sb g g0 (by omega); constructor <;> omega) (by omega)) ?_
  rintro v N2 ⟨hv, rfl⟩
  rw [flZ_cg (by omega) (fun g g0 g1 => hT.2.2 g g0 (by omega))] at hv
  have vb := flZ_b (fun g => sumG (M 4) (N2 68) (M 3 4) g) (k := M 3 5) (by omega)
  rw [← hv] at vb
  have eL : N2 70 v = lsZ (fun g => sumG (M 4) (N2 68) (M 3 4) g) (M 3 5) := by
    rw [hT.2.2 v vb.1 (by omega), hv]
    rfl
  refine w_iaload ta_3 rfl rfl (by omega) (by omega) (by omega) ?_
  refine w_istn_2_4 ta_3 rfl rfl ?_
  refine w_aload_n ta_3 rfl rfl ?_
  refine w_getR ta_3 rfl rfl ?_
  refine w_aload_n ta_3 rfl rfl ?_
  refine w_getIv 5 (v := M 3 5) ta_3 rfl rfl rfl (by rw [e3]) ?_
  refine w_cI [_, _] _ ta_3 rfl rfl rfl mt_104 rfl rfl rfl rfl (Nat.le_of_ble_eq_true rfl) (fun q => by cases q) rfl (c_greatest _ 70 5 (M 3 5) _ rfl (by decide) k1 (fun g g0 g1 => by have := sb g g0 (by omega); constructor <;> omega) (by omega)) ?_
  rintro w N3 ⟨hw, rfl⟩
  rw [grZ_cg (by omega) (fun g g0 g1 => hT.2.2 g g0 (by omega))] at hw
  have lg := lsG_b (tr := N3 68) n1 hc (M 3 5) (by omega)
  rw [← hw, ← eL] at lg
  refine w_istn_3_4 ta_3 rfl rfl ?_
  refine w_iload_n ta_3 rfl rfl ?_
  refine w_aload_n ta_3 rfl rfl ?_
  refine w_getIv 3 (v := a.1) ta_3 rfl rfl rfl hA2.1 ?_
  refine w_icmp_gt ta_3 rfl ⟨by omega, by omega⟩ ⟨by omega, by omega⟩ (fun h34 => ?_) (fun h34 => ?_)
  · have c0 : a.1 < lsZ (fun g => sumG (M 4) (N3 68) (M 3 4) g) (M 3 5) ∨ (lsZ (fun g => sumG (M 4) (N3 68) (M 3 4) g) (M 3 5) = a.1 ∧ grZ (fun g => sumG (M 4) (N3 68) (M 3 4) g) (M 3 5) < a.2.1) := by rw [← eL, ← hw]; omega
    refine w_aload_n ta_3 rfl rfl ?_
    refine w_iload_n ta_3 rfl rfl ?_
    refine w_putI 3 ta_3 rfl rfl rfl ?_
    refine w_aload_n ta_3 rfl rfl ?_
    refine w_iload_n ta_3 rfl rfl ?_
    refine w_putI 4 ta_3 rfl rfl rfl ?_
    refine w_aload_n ta_3 rfl rfl ?_
    refine w_getR ta_3 rfl rfl ?_
    refine w_iconst ta_3 rfl ?_
    refine w_aload_n ta_3 rfl rfl ?_
    refine w_getR ta_3 rfl rfl ?_
    refine w_iconst ta_3 rfl ?_
    refine w_aload_n ta_3 rfl rfl ?_
    refine w_getIv 4 (v := M 3 4) ta_3 rfl rfl rfl (by show N3 3 4 = _; rw [e3]) ?_
    refine w_acopy ta_3 rfl rfl rfl (by omega) (by omega) (by omega) (by omega) (by omega) (by omega) (Nat.le_of_ble_eq_true rfl) ?_
    refine w_vret ta_3 rfl ?_
    first
      | (refine ⟨rfl, fun _ _ _ => rfl, ?_⟩
         unfold jd
         rw [if_neg c0]
         exact hA2)
      | (refine ⟨rfl, fun c c1 c2 => ?_, ?_⟩
         · rw [sc_n _ _ c2, wr_n _ _ _ c1, wr_n _ _ _ c1]
         · unfold jd
           rw [if_pos c0]
           refine ⟨?_, ?_, fun _ i i0 i1 => ?_⟩
           · rw [sc_n _ _ (by decide), wr_s, up_n _ _ (by decide), wr_s, up_s]; exact eL
           · rw [sc_n _ _ (by decide), wr_s, up_s]; exact hw
           · rw [sc_s]
             show cpI _ _ 0 0 _ i = cut _ _ i
             rw [cut_at i0 i1]
             unfold cpI
             rw [if_pos (by omega), show 0 + (i - 0) = i by omega]
             rfl)
  · refine w_iload_n ta_3 rfl rfl ?_
    refine w_aload_n ta_3 rfl rfl ?_
    refine w_getIv 3 (v := a.1) ta_3 rfl rfl rfl hA2.1 ?_
    refine w_icmp_ne ta_3 rfl ⟨by omega, by omega⟩ ⟨by omega, by omega⟩ (fun h42 => ?_) (fun h42 => ?_)
    · have c0 : ¬ (a.1 < lsZ (fun g => sumG (M 4) (N3 68) (M 3 4) g) (M 3 5) ∨ (lsZ (fun g => sumG (M 4) (N3 68) (M 3 4) g) (M 3 5) = a.1 ∧ grZ (fun g => sumG (M 4) (N3 68) (M 3 4) g) (M 3 5) < a.2.1)) := by rw [← eL, ← hw]; omega
      refine w_vret ta_3 rfl ?_
      first
        | (refine ⟨rfl, fun _ _ _ => rfl, ?_⟩
           unfold jd
           rw [if_neg c0]
           exact hA2)
        | (refine ⟨rfl, fun c c1 c2 => ?_, ?_⟩
           · rw [sc_n _ _ c2, wr_n _ _ _ c1, wr_n _ _ _ c1]
           · unfold jd
             rw [if_pos c0]
             refine ⟨?_, ?_, fun _ i i0 i1 => ?_⟩
             · rw [sc_n _ _ (by decide), wr_s, up_n _ _ (by decide), wr_s, up_s]; exact eL
             · rw [sc_n _ _ (by decide), wr_s, up_s]; exact hw
             · rw [sc_s]
               show cpI _ _ 0 0 _ i = cut _ _ i
               rw [cut_at i0 i1]
               unfold cpI
               rw [if_pos (by omega), show 0 + (i - 0) = i by omega]
               rfl)
    · refine w_iload_n ta_3 rfl rfl ?_
      refine w_aload_n ta_3 rfl rfl ?_
      refine w_getIv 4 (v := a.2.1) ta_3 rfl rfl rfl hA2.2.1 ?_
      refine w_icmp_ge ta_3 rfl ⟨by omega, by omega⟩ ⟨by omega, by omega⟩ (fun h50 => ?_) (fun h50 => ?_)
      · have c0 : ¬ (a.1 < lsZ (fun g => sumG (M 4) (N3 68) (M 3 4) g) (M 3 5) ∨ (lsZ (fun g => sumG (M 4) (N3 68) (M 3 4) g) (M 3 5) = a.1 ∧ grZ (fun g => sumG (M 4) (N3 68) (M 3 4) g) (M 3 5) < a.2.1)) := by rw [← eL, ← hw]; omega
        refine w_vret ta_3 rfl ?_
        first
          | (refine ⟨rfl, fun _ _ _ => rfl, ?_⟩
             unfold jd
             rw [if_neg c0]
             exact hA2)
          | (refine ⟨rfl, fun c c1 c2 => ?_, ?_⟩
             · rw [sc_n _ _ c2, wr_n _ _ _ c1, wr_n _ _ _ c1]
             · unfold jd
               rw [if_pos c0]
               refine ⟨?_, ?_, fun _ i i0 i1 => ?_⟩
               · rw [sc_n _ _ (by decide), wr_s, up_n _ _ (by decide), wr_s, up_s]; exact eL
               · rw [sc_n _ _ (by decide), wr_s, up_s]; exact hw
               · rw [sc_s]
                 show cpI _ _ 0 0 _ i = cut _ _ i
                 rw [cut_at i0 i1]
                 unfold cpI
                 rw [if_pos (by omega), show 0 + (i - 0) = i by omega]
                 rfl)
      · have c0 : a.1 < lsZ (fun g => sumG (M 4) (N3 68) (M 3 4) g) (M 3 5) ∨ (lsZ (fun g => sumG (M 4) (N3 68) (M 3 4) g) (M 3 5) = a.1 ∧ grZ (fun g => sumG (M 4) (N3 68) (M 3 4) g) (M 3 5) < a.2.1) := by rw [← eL, ← hw]; omega
        refine w_aload_n ta_3 rfl rfl ?_
        refine w_iload_n ta_3 rfl rfl ?_
        refine w_putI 3 ta_3 rfl rfl rfl ?_
        refine w_aload_n ta_3 rfl rfl ?_
        refine w_iload_n ta_3 rfl rfl ?_
        refine w_putI 4 ta_3 rfl rfl rfl ?_
        refine w_aload_n ta_3 rfl rfl ?_
        refine w_getR ta_3 rfl rfl ?_
        refine w_iconst ta_3 rfl ?_
        refine w_aload_n ta_3 rfl rfl ?_
        refine w_getR ta_3 rfl rfl ?_
        refine w_iconst ta_3 rfl ?_
        refine w_aload_n ta_3 rfl rfl ?_
        refine w_getIv 4 (v := M 3 4) ta_3 rfl rfl rfl (by show N3 3 4 = _; rw [e3]) ?_
        refine w_acopy ta_3 rfl rfl rfl (by omega) (by omega) (by omega) (by omega) (by omega) (by omega) (Nat.le_of_ble_eq_true rfl) ?_
        refine w_vret ta_3 rfl ?_
        first
          | (refine ⟨rfl, fun _ _ _ => rfl, ?_⟩
             unfold jd
             rw [if_neg c0]
             exact hA2)
          | (refine ⟨rfl, fun c c1 c2 => ?_, ?_⟩
             · rw [sc_n _ _ c2, wr_n _ _ _ c1, wr_n _ _ _ c1]
             · unfold jd
               rw [if_pos c0]
               refine ⟨?_, ?_, fun _ i i0 i1 => ?_⟩
               · rw [sc_n _ _ (by decide), wr_s, up_n _ _ (by decide), wr_s, up_s]; exact eL
               · rw [sc_n _ _ (by decide), wr_s, up_s]; exact hw
               · rw [sc_s]
                 show cpI _ _ 0 0 _ i = cut _ _ i
                 rw [cut_at i0 i1]
                 unfold cpI
                 rw [if_pos (by omega), show 0 + (i - 0) = i by omega]
                 rfl)
set_option maxHeartbeats 4000000 in
set_option maxRecDepth 20000 in
theorem lp_tryCell (D d : Nat) (M N : Mem) (hI : PkI 3 M) (i op left : Int) (i0 : 0 ≤ i) (i1 : i < M 3 4) (hT : TC M N i) (ho : op = opZ (N 68) i) (hl : left = sumZ (M 4) (M 3 4) - sumZ (M 4) i) (hd : i + 1 = M 3 4 - d) (ihC : ∀ (op left : Int) (Z : Mem) (b : Acc), TC M Z (i + 1) → op = opZ (Z 68) (i + 1) → left = sumZ (M 4) (M 3 4) - sumZ (M 4) (i + 1) → AC Z (M 3 4) b → AcB b → CV (D + d + 6) 1 [.inr (.inr 67), .inr (.inr 3), .inl (i + 1), .inl op, .inl left] Z (fun M' => TP M Z M' (i + 1) ∧ AC M' (M 3 4) (bs (M 4) (M 3 4) (M 3 5) d (Z 68) b))) : ∀ (c : Nat) (g : Int) (Z : Mem) (b : Acc), g + c = cZ (N 68) (M 3 5) i → 0 ≤ g → (∀ c, c < 67 ∨ 70 < c → Z c = M c) → (∀ j, 0 ≤ j → j < i → Z 68 j = N 68 j) → (∀ g, 0 ≤ g → g < 5 → Z 70 g = N 70 g) → AC Z (M 3 4) b → AcB b → Wp (D + d + 6 + 1) 1 (49, [some (.inr (.inr 67)), some (.inr (.inr 3)), some (.inl i), some (.inl op), some (.inl left), some (.inl (cZ (N 68) (M 3 5) i - 1)), some (.inl g)], [], Z) (fun r M' => r = none ∧ TP M N M' i ∧ AC M' (M 3 4) (fl (fun g b => bs (M 4) (M 3 4) (M 3 5) d (upI (N 68) i g) b) g c b)) := by
  obtain ⟨n0, n1, k0, k1, f0, f1, r0, r1, s0, s1, hA⟩ := pkd_3 hI
  have hc : ∀ i, 0 ≤ i → i < M 3 4 → 1 ≤ M 4 i ∧ M 4 i ≤ 999 := fun i i0 i1 => by have := hA i i0 i1; omega
  have ci := hc i i0 i1
  have op0 := opZ_b (N 68) i
  have op1 := opZ_le hT.2.1 (show 0 ≤ M 3 5 by omega)
  have cb := cZ_b (N 68) i (k := M 3 5) (by omega)
  subst ho hl
  intro c
  induction c with
  | zero =>
    intro g Z b hg g0 hF hR hS hC hB
    refine w_iload ta_1 rfl rfl ?_
    refine w_iload ta_1 rfl rfl ?_
    refine w_icmp_gt ta_1 rfl ⟨by omega, by omega⟩ ⟨by omega, by omega⟩ (fun h53 => ?_) (fun h53 => ?_)
    · refine w_vret ta_1 rfl ?_
      exact ⟨rfl, ⟨hF, hR, hS⟩, hC⟩
    · exfalso; omega
  | succ c ih =>
    intro g Z b hg g0 hF hR hS hC hB
    refine w_iload ta_1 rfl rfl ?_
    refine w_iload ta_1 rfl rfl ?_
    refine w_icmp_gt ta_1 rfl ⟨by omega, by omega⟩ ⟨by omega, by omega⟩ (fun h53 => ?_) (fun h53 => ?_)
    · exfalso; omega
    · refine w_aload_n ta_1 rfl rfl ?_
      refine w_getR ta_1 rfl rfl ?_
      refine w_iload_n ta_1 rfl rfl ?_
      refine w_iload ta_1 rfl rfl ?_
      refine w_iastore ta_1 rfl rfl (by omega) (by omega) (by omega) ?_
      refine w_aload_n ta_1 rfl rfl ?_
      refine w_getR ta_1 rfl rfl ?_
      refine w_iload ta_1 rfl rfl ?_
      refine w_dup2 ta_1 rfl rfl rfl ?_
      refine w_ialoadv (v := N 70 g) ta_1 rfl rfl (by omega) (by omega) (by omega) (by rw [wr_n _ _ _ (by decide)]; exact hS g g0 (by omega)) ?_
      refine w_aload_n ta_1 rfl rfl ?_
      refine w_getR ta_1 rfl rfl ?_
      refine w_iload_n ta_1 rfl rfl ?_
      refine w_ialoadv (v := M 4 i) ta_1 rfl rfl (by omega) (by omega) (by omega) (by rw [wr_n _ _ _ (by decide), hF 4 (by omega)]) ?_
      refine w_iadd ta_1 rfl ?_
      refine w_iastore ta_1 rfl rfl (by omega) (by omega) (by omega) ?_
      generalize hY : wr (wr Z 68 i g) 70 g (N 70 g + M 4 i) = Y
      have eY : ∀ c, c ≠ 68 → c ≠ 70 → Y c = Z c := fun c c1 c2 => by rw [← hY, wr_n _ _ _ c2, wr_n _ _ _ c1]
      have y68 : Y 68 = upI (Z 68) i g := by rw [← hY, wr_n _ _ _ (by decide), wr_s]
      have y70 : Y 70 = upI (Z 70) g (N 70 g + M 4 i) := by rw [← hY, wr_s, wr_n _ _ _ (by decide)]
      have yt : ∀ j, 0 ≤ j → j < i → Y 68 j = N 68 j := fun j j0 j1 => by rw [y68, up_n _ _ (by omega)]; exact hR j j0 j1
      have hTY : TC M Y (i + 1) := by
        refine ⟨fun c hc => by rw [eY c (by omega) (by omega)]; exact hF c hc, fun j j0 j1 => ?_, fun x x0 x1 => ?_⟩
        · by_cases e : j = i
          · rw [e, y68, up_s]; omega
          · rw [yt j j0 (by omega)]; exact hT.2.1 j j0 (by omega)
        · rw [sumG_s _ _ _ i0, sumG_cg (h' := N 68) x (fun _ _ _ => rfl) yt, y70, y68, up_s, ← hT.2.2 x x0 x1]
          unfold upI
          by_cases e : x = g
          · rw [if_pos e, if_pos e.symm, e]
          · rw [if_neg e, if_neg (fun q => e q.symm), hS x x0 x1]; omega
      have ol : opZ (Y 68) (i + 1) = if opZ (N 68) i < g + 1 then g + 1 else opZ (N 68) i := by rw [opZ_s _ i0, opZ_cg yt, y68, up_s]
      refine w_aload_n ta_1 rfl rfl ?_
      refine w_aload_n ta_1 rfl rfl ?_
      refine w_iload_n ta_1 rfl rfl ?_
      refine w_iconst ta_1 rfl ?_
      refine w_iadd ta_1 rfl ?_
      refine w_iload_n ta_1 rfl rfl ?_
      refine w_iload ta_1 rfl rfl ?_
      refine w_iconst ta_1 rfl ?_
      refine w_iadd ta_1 rfl ?_
      refine w_max ta_1 rfl ⟨by omega, by omega⟩ ⟨by omega, by omega⟩ (Nat.le_of_ble_eq_true rfl) ?_
      refine w_iload ta_1 rfl rfl ?_
      refine w_aload_n ta_1 rfl rfl ?_
      refine w_getR ta_1 rfl rfl ?_
      refine w_iload_n ta_1 rfl rfl ?_
      refine w_ialoadv (v := M 4 i) ta_1 rfl rfl (by omega) (by omega) (by omega) (by rw [eY 4 (by decide) (by decide), hF 4 (by omega)]) ?_
      refine w_isub ta_1 rfl ?_
      refine w_cV [_, _, _, _, _] _ ta_1 rfl rfl rfl mt_1 rfl rfl rfl rfl (Nat.le_of_ble_eq_true rfl) (fun _ => rfl) rfl (ihC _ _ Y b hTY ol.symm (by rw [sumZ_s _ i0]; omega) (hC.of (eY 67 (by decide) (by decide)) (eY 69 (by decide) (by decide))) hB) ?_
      rintro Y2 ⟨hP, hC2⟩
      refine w_aload_n ta_1 rfl rfl ?_
      refine w_getR ta_1 rfl rfl ?_
      refine w_iload ta_1 rfl rfl ?_
      refine w_dup2 ta_1 rfl rfl rfl ?_
      refine w_ialoadv (v := N 70 g + M 4 i) ta_1 rfl rfl (by omega) (by omega) (by omega) (by rw [hP.2.2 g g0 (by omega), y70, up_s]) ?_
      refine w_aload_n ta_1 rfl rfl ?_
      refine w_getR ta_1 rfl rfl ?_
      refine w_iload_n ta_1 rfl rfl ?_
      refine w_ialoadv (v := M 4 i) ta_1 rfl rfl (by omega) (by omega) (by omega) (by rw [hP.1 4 (by omega)]) ?_
      refine w_isub ta_1 rfl ?_
      refine w_iastore ta_1 rfl rfl (by omega) (by omega) (by omega) ?_
      refine w_iinc_6_7 ta_1 rfl rfl ?_
      refine w_goto ta_1 rfl ?_
      have eb : bs (M 4) (M 3 4) (M 3 5) d (Y 68) b = bs (M 4) (M 3 4) (M 3 5) d (upI (N 68) i g) b := bs_cg d _ _ (fun j j0 j1 => by
        rw [y68]
        unfold upI
        by_cases e : j = i
        · rw [if_pos e, if_pos e]
        · rw [if_neg e, if_neg e]; exact hR j j0 (by omega)) b
      rw [eb] at hC2
      have hB2 := bs_B n1 hc (show 1 ≤ M 3 5 by omega) d (upI (N 68) i g) b hB
      refine ih (g + 1) _ _ (by omega) (by omega) (fun c hc => by rw [wr_n _ _ _ (by omega)]; exact hP.1 c hc) (fun j j0 j1 => by rw [wr_n _ _ _ (by decide), hP.2.1 j j0 (by omega)]; exact yt j j0 j1) (fun x x0 x1 => ?_) (hC2.of (wr_n _ _ _ (by decide)) (wr_n _ _ _ (by decide))) hB2
      rw [wr_s]
      unfold upI
      by_cases e : x = g
      · rw [if_pos e, e]; omega
      · rw [if_neg e, hP.2.2 x x0 x1, y70, up_n _ _ e]; exact hS x x0 x1
set_option maxHeartbeats 4000000 in
set_option maxRecDepth 20000 in
theorem c_tryCell (D : Nat) (M : Mem) (hI : PkI 3 M) (n9 : M 3 4 ≤ 9) : ∀ (d : Nat) (i op left : Int) (N : Mem) (a : Acc), i = M 3 4 - d → 0 ≤ i → TC M N i → op = opZ (N 68) i → left = sumZ (M 4) (M 3 4) - sumZ (M 4) i → AC N (M 3 4) a → AcB a → CV (D + d + 6) 1 [.inr (.inr 67), .inr (.inr 3), .inl i, .inl op, .inl left] N (fun M' => TP M N M' i ∧ AC M' (M 3 4) (bs (M 4) (M 3 4) (M 3 5) d (N 68) a)) := by
  obtain ⟨n0, n1, k0, k1, f0, f1, r0, r1, s0, s1, hA⟩ := pkd_3 hI
  intro d
  induction d with
  | zero =>
    intro i op left N a hi i0 hT ho hl hA2 hB
    have e3 : N 3 = M 3 := hT.1 3 (by omega)
    have hc : ∀ i, 0 ≤ i → i < M 3 4 → 1 ≤ M 4 i ∧ M 4 i ≤ 999 := fun i i0 i1 => by have := hA i i0 i1; omega
    have op0 := opZ_b (N 68) i
    have op1 := opZ_le hT.2.1 (show 0 ≤ M 3 5 by omega)
    have cb := cZ_b (N 68) i (k := M 3 5) (by omega)
    obtain ⟨a0, a1, a2, a3⟩ := id hB
    have t0 := sumZ_b (f := M 4) (n := M 3 4) 999 n1 (by omega) (fun i i0 i1 => by have := hc i i0 i1; omega)
    have t1 := sumZ_b (f := M 4) (n := i) 999 (by omega) (by omega) (fun j j0 j1 => by have := hc j j0 (by omega); omega)
    have sb : ∀ g, 0 ≤ g → g < 5 → 0 ≤ N 70 g ∧ N 70 g ≤ 15984 := fun g g0 g1 => by rw [hT.2.2 g g0 g1]; exact sG_b (by omega) (fun j j0 j1 => hc j j0 (by omega)) g
    subst ho hl
    refine mk_C mt_1 rfl (Nat.le_of_ble_eq_true rfl) (L := [some _, some _, some _, some _, some _, none, none]) rfl ?_
    refine w_iload_n ta_1 rfl rfl ?_
    refine w_aload_n ta_1 rfl rfl ?_
    refine w_getIv 4 (v := M 3 4) ta_1 rfl rfl rfl (by rw [e3]) ?_
    refine w_icmp_ge ta_1 rfl ⟨by omega, by omega⟩ ⟨by omega, by omega⟩ (fun h5 => ?_) (fun h5 => ?_)
    · refine w_aload_n ta_1 rfl rfl ?_
      refine w_aload_n ta_1 rfl rfl ?_
      refine w_cV [_, _] _ ta_1 rfl rfl rfl mt_3 rfl rfl rfl rfl (Nat.le_of_ble_eq_true rfl) (fun _ => rfl) rfl (c_judge _ M N hI a (by rw [show M 3 4 = i by omega]; exact hT) hA2 hB) ?_
      rintro N2 ⟨hF, hJ⟩
      refine w_vret ta_1 rfl ?_
      exact ⟨rfl, ⟨fun c hc => (hF c (by omega) (by omega)).trans (hT.1 c hc), fun j _ _ => by rw [hF 68 (by decide) (by decide)], fun g _ _ => by rw [hF 70 (by decide) (by decide)]⟩, hJ⟩
    · exfalso; omega
  | succ d ih =>
    intro i op left N a hi i0 hT ho hl hA2 hB
    have e3 : N 3 = M 3 := hT.1 3 (by omega)
    have hc : ∀ i, 0 ≤ i → i < M 3 4 → 1 ≤ M 4 i ∧ M 4 i ≤ 999 := fun i i0 i1 => by have := hA i i0 i1; omega
    have op0 := opZ_b (N 68) i
    have op1 := opZ_le hT.2.1 (show 0 ≤ M 3 5 by omega)
    have cb := cZ_b (N 68) i (k := M 3 5) (by omega)
    obtain ⟨a0, a1, a2, a3⟩ := id hB
    have t0 := sumZ_b (f := M 4) (n := M 3 4) 999 n1 (by omega) (fun i i0 i1 => by have := hc i i0 i1; omega)
    have t1 := sumZ_b (f := M 4) (n := i) 999 (by omega) (by omega) (fun j j0 j1 => by have := hc j j0 (by omega); omega)
    have sb : ∀ g, 0 ≤ g → g < 5 → 0 ≤ N 70 g ∧ N 70 g ≤ 15984 := fun g g0 g1 => by rw [hT.2.2 g g0 g1]; exact sG_b (by omega) (fun j j0 j1 => hc j j0 (by omega)) g
    subst ho hl
    rw [show D + (d + 1) + 6 = D + d + 6 + 1 by omega]
    refine mk_C mt_1 rfl (Nat.le_of_ble_eq_true rfl) (L := [some _, some _, some _, some _, some _, none, none]) rfl ?_
    refine w_iload_n ta_1 rfl rfl ?_
    refine w_aload_n ta_1 rfl rfl ?_
    refine w_getIv 4 (v := M 3 4) ta_1 rfl rfl rfl (by rw [e3]) ?_
    refine w_icmp_ge ta_1 rfl ⟨by omega, by omega⟩ ⟨by omega, by omega⟩ (fun h5 => ?_) (fun h5 => ?_)
    · exfalso; omega
    · refine w_iload_n ta_1 rfl rfl ?_
      refine w_bipush ta_1 rfl ?_
      refine w_icmp_lt ta_1 rfl ⟨by omega, by omega⟩ ⟨by omega, by omega⟩ (fun h11 => ?_) (fun h11 => ?_)
      · refine w_aload_n ta_1 rfl rfl ?_
        refine w_aload_n ta_1 rfl rfl ?_
        refine w_getIv 5 (v := M 3 5) ta_1 rfl rfl rfl (by rw [e3]) ?_
        refine w_cI [_, _] _ ta_1 rfl rfl rfl mt_2 rfl rfl rfl rfl (Nat.le_of_ble_eq_true rfl) (fun _ => rfl) rfl (c_lacking _ N (M 3 5) (by omega) k1 (by rw [hA2.1]; omega) sb) ?_
        rintro v N2 ⟨hv, rfl⟩
        have vb := sumZ_b (f := fun g => if 0 < N2 67 3 - N2 70 g then N2 67 3 - N2 70 g else 0) (n := M 3 5) 16000 (by omega) (by omega) (fun g g0 g1 => by have := sb g g0 (by omega); have := hA2.1; split <;> omega)
        have hv2 : v = sumZ (fun g => if 0 < N2 67 3 - N2 70 g then N2 67 3 - N2 70 g else 0) (M 3 5) := hv
        rw [← hv2] at vb
        refine w_iload ta_1 rfl rfl ?_
        refine w_icmp_le ta_1 rfl ⟨by omega, by omega⟩ ⟨by omega, by omega⟩ (fun h30 => ?_) (fun h30 => ?_)
        · refine w_iload_n ta_1 rfl rfl ?_
          refine w_aload_n ta_1 rfl rfl ?_
          refine w_getIv 5 (v := M 3 5) ta_1 rfl rfl rfl (by rw [e3]) ?_
          refine w_iconst ta_1 rfl ?_
          refine w_isub ta_1 rfl ?_
          refine w_min ta_1 rfl ⟨by omega, by omega⟩ ⟨by omega, by omega⟩ (Nat.le_of_ble_eq_true rfl) ?_
          rw [show (if M 3 5 - 1 < opZ (N2 68) i then M 3 5 - 1 else opZ (N2 68) i) = cZ (N2 68) (M 3 5) i - 1 by unfold cZ; split <;> split <;> omega]
          refine w_ist_5_7 ta_1 rfl rfl ?_
          refine w_iconst ta_1 rfl ?_
          refine w_ist_6_7 ta_1 rfl rfl ?_
          have q := lp_tryCell D d M N2 hI i _ _ i0 (by omega) hT rfl rfl (by omega) (fun op left Z b h1 h2 h3 h4 h5 => ih (i + 1) op left Z b (by omega) (by omega) h1 h2 h3 h4 h5) (cZ (N2 68) (M 3 5) i).toNat 0 N2 a (by omega) (by omega) hT.1 (fun _ _ _ => rfl) (fun _ _ _ => rfl) hA2 hB
          rw [bs, show M 3 4 - ((d : Int) + 1) = i by omega]
          exact q
        · have pr := bs_prune (n := M 3 4) hc (show 1 ≤ M 3 5 by omega) (d + 1) (N2 68) a (by omega) (by
            rw [show M 3 4 - ((d + 1 : Nat) : Int) = i by omega]
            have el : lkZ (N2 67 3) (N2 70) (M 3 5) = lkZ a.1 (fun g => sumG (M 4) (N2 68) i g) (M 3 5) := by
              rw [hA2.1]
              exact sumZ_cg (fun g g0 g1 => by rw [hT.2.2 g g0 (by omega)])
            omega)
          refine w_vret ta_1 rfl ?_
          rw [pr]
          exact ⟨rfl, ⟨hT.1, fun _ _ _ => rfl, fun _ _ _ => rfl⟩, hA2⟩
      · exfalso; omega
set_option maxHeartbeats 4000000 in
set_option maxRecDepth 20000 in
theorem c_chooseB (D : Nat) (M : Mem) (hI : PkI 3 M) (n9 : M 3 4 ≤ 9) : CV (D + (M 3 4).toNat + 7) 0 [.inr (.inr 67), .inr (.inr 3), .inr (.inr 27)] M (fun M' => (∀ c, c < 27 ∨ 70 < c → M' c = M c) ∧ ∀ i, 0 ≤ i → i < M 3 4 → M' 27 i = way3 (M 4) (M 3 4) (M 3 5) i) := by
  refine mk_C mt_0 rfl (Nat.le_of_ble_eq_true rfl) (L := [some _, some _, some _]) rfl ?_
  obtain ⟨n0, n1, k0, k1, f0, f1, r0, r1, s0, s1, hA⟩ := pkd_3 hI
  refine w_aload_n ta_0 rfl rfl ?_
  refine w_getI 4 ta_0 rfl rfl rfl ?_
  refine w_bipush ta_0 rfl ?_
  refine w_icmp_le ta_0 rfl ⟨by omega, by omega⟩ ⟨by omega, by omega⟩ (fun h6 => ?_) (fun h6 => ?_)
  · refine w_aload_n ta_0 rfl rfl ?_
    refine w_getR ta_0 rfl rfl ?_
    refine w_iconst ta_0 rfl ?_
    refine w_cV [_, _] _ ta_0 rfl rfl rfl mt_196 rfl rfl rfl rfl (Nat.le_of_ble_eq_true rfl) (fun q => by cases q) rfl (c_fill _ 70 5 0 M rfl (by decide)) ?_
    rintro N1 hN1
    refine w_aload_n ta_0 rfl rfl ?_
    refine w_bipush ta_0 rfl ?_
    refine w_putI 3 ta_0 rfl rfl rfl ?_
    refine w_aload_n ta_0 rfl rfl ?_
    refine w_bipush ta_0 rfl ?_
    refine w_putI 4 ta_0 rfl rfl rfl ?_
    generalize hY : wr (wr N1 67 3 (-4)) 67 4 (-4) = Y
    have eY : ∀ c, c ≠ 67 → Y c = N1 c := fun c c1 => by rw [← hY, wr_n _ _ _ c1, wr_n _ _ _ c1]
    have e1 : ∀ c, c ≠ 67 → c ≠ 70 → Y c = M c := fun c c1 c2 => by rw [eY c c1, hN1, sc_n _ _ c2]
    have e3 : Y 3 = M 3 := e1 3 (by decide) (by decide)
    have e4 : Y 4 = M 4 := e1 4 (by decide) (by decide)
    have y7 : Y 67 3 = -4 ∧ Y 67 4 = -4 := by rw [← hY]; exact ⟨rfl, rfl⟩
    have hTC : TC M Y 0 := ⟨fun c hc => e1 c (by omega) (by omega), fun j j0 j1 => by omega, fun g g0 g1 => by rw [eY 70 (by decide), hN1, sc_s]; exact if_pos ⟨g0, g1⟩⟩
    refine w_aload_n ta_0 rfl rfl ?_
    refine w_aload_n ta_0 rfl rfl ?_
    refine w_iconst ta_0 rfl ?_
    refine w_iconst ta_0 rfl ?_
    refine w_aload_n ta_0 rfl rfl ?_
    refine w_getR ta_0 rfl rfl ?_
    refine w_aload_n ta_0 rfl rfl ?_
    refine w_getIv 4 (v := M 3 4) ta_0 rfl rfl rfl (by rw [e3]) ?_
    refine w_cI [_, _] _ ta_0 rfl rfl rfl mt_101 rfl rfl rfl rfl (Nat.le_of_ble_eq_true rfl) (fun q => by cases q) rfl (c_total _ 4 16 (M 3 4) _ rfl (by decide) n0 (by omega)) ?_
    rintro t N3 ⟨ht, rfl⟩
    rw [e4] at ht
    subst ht
    refine w_cV [_, _, _, _, _] _ ta_0 rfl rfl rfl mt_1 rfl rfl rfl rfl (Nat.le_of_ble_eq_true rfl) (fun _ => rfl) rfl (c_tryCell D M hI n9 (M 3 4).toNat 0 0 _ _ (-4, -4, fun _ => 0) (by omega) (by omega) hTC rfl (Int.sub_zero _).symm ⟨y7.1, y7.2, fun z => absurd z (by show ¬ (0 : Int) ≤ -4; omega)⟩ (by show AcB _; unfold AcB; decide)) ?_
    rintro N4 ⟨hP, hC⟩
    refine w_aload_n ta_0 rfl rfl ?_
    refine w_getR ta_0 rfl rfl ?_
    refine w_iconst ta_0 rfl ?_
    refine w_aload_n ta_0 rfl rfl ?_
    refine w_iconst ta_0 rfl ?_
    refine w_aload_n ta_0 rfl rfl ?_
    refine w_getIv 4 (v := M 3 4) ta_0 rfl rfl rfl (by rw [hP.1 3 (by omega)]) ?_
    refine w_acopy ta_0 rfl rfl rfl (by omega) (by omega) (by omega) (by omega) (by omega) (by omega) (Nat.le_of_ble_eq_true rfl) ?_
    refine w_vret ta_0 rfl ?_
    have nn := bs_nn (ch := M 4) n1 (fun i i0 i1 => by have := hA i i0 i1; omega) (show 1 ≤ M 3 5 by omega) (M 3 4).toNat (N3 68) (-4, -4, fun _ => 0)
    refine ⟨rfl, fun c hc => by rw [sc_n _ _ (by omega)]; exact hP.1 c (by omega), fun i i0 i1 => ?_⟩
    rw [sc_s]
    unfold cpI
    rw [if_pos (by omega), show 0 + (i - 0) = i by omega, hC.2.2 nn i i0 i1]
    unfold way3
    rw [bs_cg (M 3 4).toNat (N3 68) (fun _ => 0) (fun j j0 j1 => by omega)]
  · exfalso; omega
