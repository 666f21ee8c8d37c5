/-! ways, for callers: the class -/
def wayZ (w : Int) (ch : Int → Int) (n k : Int) : Int → Int := if w = 0 then fun i => i % k else if w = 1 then way1 ch n k else if w = 2 then way2 ch n k else way3 ch n k
theorem wayZ_b {w : Int} {ch : Int → Int} {n k : Int} (k0 : 2 ≤ k) (k1 : k ≤ 5) (hn : n ≤ 16) (hc : ∀ i, 0 ≤ i → i < n → 1 ≤ ch i ∧ ch i ≤ 999) : ∀ i, 0 ≤ i → i < n → 0 ≤ wayZ w ch n k i ∧ wayZ w ch n k i < k := by
  intro i i0 i1
  unfold wayZ
  split
  · exact ⟨Int.emod_nonneg _ (by omega), Int.emod_lt_of_pos _ (by omega)⟩
  · split
    · exact way1_b (by omega) n.toNat (by omega) _ _ (fun x _ _ => ⟨Int.le_refl _, by show (0 : Int) < k; omega⟩) i i0 i1
    · split
      · exact way2_b ch k0 k1 i i0 i1
      · exact way3_b hn hc (by omega) i i0 i1
theorem wayZ_cg {ch ch' : Int → Int} {n : Int} (h : ∀ i, 0 ≤ i → i < n → ch i = ch' i) (w : Int) {k : Int} (hk : 1 ≤ k) : ∀ i, 0 ≤ i → i < n → wayZ w ch n k i = wayZ w ch' n k i := by
  intro i i0 i1
  unfold wayZ
  split
  · rfl
  · split
    · exact way1_cg hk h i i0 i1
    · split
      · rw [way2_cg h]
      · rw [way3_cg h]
def waS (w : Int) (ch : Int → Int) (n k : Int) : Int → Int := fun g => sumG ch (wayZ w ch n k) n g
theorem waS_cg {ch ch' : Int → Int} {n : Int} (h : ∀ i, 0 ≤ i → i < n → ch i = ch' i) (w : Int) {k : Int} (hk : 1 ≤ k) : waS w ch n k = waS w ch' n k := funext fun g => sumG_cg g h (wayZ_cg h w hk)
/-- the joins of way 2, told -/
def JoC (M M' : Mem) : Prop := M' 30 4 = ((M 3 4 - 1).toNat : Int) ∧ ∀ j : Nat, j < (M 3 4 - 1).toNat → M' 66 j = 100 * d1 (M 4) (M 3 4) (M 3 5) j + d2 (M 4) (M 3 4) (M 3 5) j
theorem FrW.I {M M' : Mem} (h : FrW M M') (hI : PkI 3 M) : PkI 3 M' := hI.of (h 3 (by omega)) (h 4 (by omega)) (h 5 (by omega)) (h 6 (by omega))
theorem FrW.scr {M M' : Mem} (h : FrW M M') : Scr M M' := fun c hc => h c (by omega)
set_option maxHeartbeats 4000000 in
set_option maxRecDepth 20000 in
theorem c_choose (D : Nat) (M : Mem) (hI : PkI 3 M) (w : Int) (w0 : 0 ≤ w) (w1 : w < 4) (h9 : w ≠ 3 ∨ M 3 4 ≤ 9) : CV (D + 20) 52 [.inr (.inr 26), .inr (.inr 3), .inl w] M (fun M' => FrW M M' ∧ (∀ i, 0 ≤ i → i < M 3 4 → M' 27 i = wayZ w (M 4) (M 3 4) (M 3 5) i) ∧ (w = 2 → JoC M M')) := by
  refine mk_C mt_52 rfl (Nat.le_of_ble_eq_true rfl) (L := [some _, some _, some _]) rfl ?_
  obtain ⟨n0, n1, k0, k1, f0, f1, r0, r1, s0, s1, hA⟩ := pkd_3 hI
  refine w_iload_n ta_52 rfl rfl ?_
  rcases (show w = 1 ∨ w = 2 ∨ w = 3 ∨ (w < 1 ∨ 3 < w) by omega) with h1 | h1 | h1 | h1
  · refine w_tsw 28 ta_52 rfl ⟨by omega, by omega⟩ (by rw [h1]; rfl) ?_
    refine w_aload_n ta_52 rfl rfl ?_
    refine w_aload_n ta_52 rfl rfl ?_
    refine w_cV [_, _] _ ta_52 rfl rfl rfl mt_54 rfl rfl rfl rfl (Nat.le_of_ble_eq_true rfl) (fun _ => rfl) rfl (c_byWeakest _ M hI) ?_
    rintro N ⟨hF, hW⟩
    refine w_goto ta_52 rfl ?_
    refine w_vret ta_52 rfl ?_
    first
      | (refine ⟨rfl, fun c hc => by rw [hN, sc_n _ _ (by omega)], fun i i0 i1 => ?_, fun z => by omega⟩
         unfold wayZ
         rw [if_pos (by omega), hN, sc_s]
         exact if_pos ⟨i0, i1⟩)
      | (refine ⟨rfl, hF, fun i i0 i1 => ?_, fun z => by omega⟩
         unfold wayZ
         rw [if_neg (by omega), if_pos (by omega)]
         exact hW i i0 i1)
      | (refine ⟨rfl, hF, fun i i0 i1 => ?_, fun _ => hJ⟩
         unfold wayZ
         rw [if_neg (by omega), if_neg (by omega), if_pos (by omega)]
         exact hW i i0 i1)
      | (refine ⟨rfl, hF, fun i i0 i1 => ?_, fun z => by omega⟩
         unfold wayZ
         rw [if_neg (by omega), if_neg (by omega), if_neg (by omega)]
         exact hW i i0 i1)
  · refine w_tsw 36 ta_52 rfl ⟨by omega, by omega⟩ (by rw [h1]; rfl) ?_
    refine w_aload_n ta_52 rfl rfl ?_
    refine w_getR ta_52 rfl rfl ?_
    refine w_aload_n ta_52 rfl rfl ?_
    refine w_aload_n ta_52 rfl rfl ?_
    refine w_getR ta_52 rfl rfl ?_
    refine w_cV [_, _, _] _ ta_52 rfl rfl rfl mt_4 rfl rfl rfl rfl (Nat.le_of_ble_eq_true rfl) (fun _ => rfl) rfl (c_chooseD _ M hI) ?_
    rintro N ⟨hF, hW, hJ⟩
    refine w_goto ta_52 rfl ?_
    refine w_vret ta_52 rfl ?_
    first
      | (refine ⟨rfl, fun c hc => by rw [hN, sc_n _ _ (by omega)], fun i i0 i1 => ?_, fun z => by omega⟩
         unfold wayZ
         rw [if_pos (by omega), hN, sc_s]
         exact if_pos ⟨i0, i1⟩)
      | (refine ⟨rfl, hF, fun i i0 i1 => ?_, fun z => by omega⟩
         unfold wayZ
         rw [if_neg (by omega), if_pos (by omega)]
         exact hW i i0 i1)
      | (refine ⟨rfl, hF, fun i i0 i1 => ?_, fun _ => hJ⟩
         unfold wayZ
         rw [if_neg (by omega), if_neg (by omega), if_pos (by omega)]
         exact hW i i0 i1)
      | (refine ⟨rfl, hF, fun i i0 i1 => ?_, fun z => by omega⟩
         unfold wayZ
         rw [if_neg (by omega), if_neg (by omega), if_neg (by omega)]
         exact hW i i0 i1)
  · refine w_tsw 51 ta_52 rfl ⟨by omega, by omega⟩ (by rw [h1]; rfl) ?_
    refine w_aload_n ta_52 rfl rfl ?_
    refine w_getR ta_52 rfl rfl ?_
    refine w_aload_n ta_52 rfl rfl ?_
    refine w_aload_n ta_52 rfl rfl ?_
    refine w_getR ta_52 rfl rfl ?_
    refine w_cV [_, _, _] _ ta_52 rfl rfl rfl mt_0 rfl rfl rfl rfl (Nat.le_of_ble_eq_true rfl) (fun _ => rfl) rfl ((by have q := c_chooseB (D + 12 - (M 3 4).toNat) M hI (by omega); rw [show D + 12 - (M 3 4).toNat + (M 3 4).toNat + 7 = D + 19 by omega] at q; exact q)) ?_
    rintro N ⟨hF, hW⟩
    refine w_goto ta_52 rfl ?_
    refine w_vret ta_52 rfl ?_
    first
      | (refine ⟨rfl, fun c hc => by rw [hN, sc_n _ _ (by omega)], fun i i0 i1 => ?_, fun z => by omega⟩
         unfold wayZ
         rw [if_pos (by omega), hN, sc_s]
         exact if_pos ⟨i0, i1⟩)
      | (refine ⟨rfl, hF, fun i i0 i1 => ?_, fun z => by omega⟩
         unfold wayZ
         rw [if_neg (by omega), if_pos (by omega)]
         exact hW i i0 i1)
      | (refine ⟨rfl, hF, fun i i0 i1 => ?_, fun _ => hJ⟩
         unfold wayZ
         rw [if_neg (by omega), if_neg (by omega), if_pos (by omega)]
         exact hW i i0 i1)
      | (refine ⟨rfl, hF, fun i i0 i1 => ?_, fun z => by omega⟩
         unfold wayZ
         rw [if_neg (by omega), if_neg (by omega), if_neg (by omega)]
         exact hW i i0 i1)
  · refine w_tsw 66 ta_52 rfl ⟨by omega, by omega⟩ (if_pos h1) ?_
    refine w_aload_n ta_52 rfl rfl ?_
    refine w_aload_n ta_52 rfl rfl ?_
    refine w_cV [_, _] _ ta_52 rfl rfl rfl mt_53 rfl rfl rfl rfl (Nat.le_of_ble_eq_true rfl) (fun _ => rfl) rfl (c_byTurns _ M hI) ?_
    rintro N hN
    refine w_vret ta_52 rfl ?_
    first
      | (refine ⟨rfl, fun c hc => by rw [hN, sc_n _ _ (by omega)], fun i i0 i1 => ?_, fun z => by omega⟩
         unfold wayZ
         rw [if_pos (by omega), hN, sc_s]
         exact if_pos ⟨i0, i1⟩)
      | (refine ⟨rfl, hF, fun i i0 i1 => ?_, fun z => by omega⟩
         unfold wayZ
         rw [if_neg (by omega), if_pos (by omega)]
         exact hW i i0 i1)
      | (refine ⟨rfl, hF, fun i i0 i1 => ?_, fun _ => hJ⟩
         unfold wayZ
         rw [if_neg (by omega), if_neg (by omega), if_pos (by omega)]
         exact hW i i0 i1)
      | (refine ⟨rfl, hF, fun i i0 i1 => ?_, fun z => by omega⟩
         unfold wayZ
         rw [if_neg (by omega), if_neg (by omega), if_neg (by omega)]
         exact hW i i0 i1)
set_option maxHeartbeats 4000000 in
set_option maxRecDepth 20000 in
theorem c_regroup (D : Nat) (M : Mem) (hI : PkI 3 M) (w : Int) (w0 : 0 ≤ w) (w1 : w < 4) (h9 : w ≠ 3 ∨ M 3 4 ≤ 9) : CV (D + 21) 97 [.inr (.inr 0), .inl w] M (fun M' => (∀ c, c ≠ 6 → c < 27 ∨ 70 < c → M' c = M c) ∧ ∀ i, 0 ≤ i → i < M 3 4 → M' 6 i = wayZ w (M 4) (M 3 4) (M 3 5) i) := by
  refine mk_C mt_97 rfl (Nat.le_of_ble_eq_true rfl) (L := [some _, some _]) rfl ?_
  obtain ⟨n0, n1, k0, k1, f0, f1, r0, r1, s0, s1, hA⟩ := pkd_3 hI
  refine w_aload_n ta_97 rfl rfl ?_
  refine w_getR ta_97 rfl rfl ?_
  refine w_aload_n ta_97 rfl rfl ?_
  refine w_getR ta_97 rfl rfl ?_
  refine w_iload_n ta_97 rfl rfl ?_
  refine w_cV [_, _, _] _ ta_97 rfl rfl rfl mt_52 rfl rfl rfl rfl (Nat.le_of_ble_eq_true rfl) (fun _ => rfl) rfl (c_choose _ M hI w w0 w1 h9) ?_
  rintro N ⟨hF, hW, hJ⟩
  refine w_aload_n ta_97 rfl rfl ?_
  refine w_getR ta_97 rfl rfl ?_
  refine w_getR ta_97 rfl rfl ?_
  refine w_iconst ta_97 rfl ?_
  refine w_aload_n ta_97 rfl rfl ?_
  refine w_getR ta_97 rfl rfl ?_
  refine w_getR ta_97 rfl rfl ?_
  refine w_iconst ta_97 rfl ?_
  refine w_aload_n ta_97 rfl rfl ?_
  refine w_getR ta_97 rfl rfl ?_
  refine w_getIv 4 (v := M 3 4) ta_97 rfl rfl rfl (by rw [hF 3 (by omega)]) ?_
  refine w_acopy ta_97 rfl rfl rfl (by omega) (by omega) (by omega) (by omega) (by omega) (by omega) (Nat.le_of_ble_eq_true rfl) ?_
  refine w_vret ta_97 rfl ?_
  refine ⟨rfl, fun c c1 c2 => by rw [sc_n _ _ c1]; exact hF c (by omega), fun i i0 i1 => ?_⟩
  rw [sc_s]
  unfold cpI
  rw [if_pos (by omega), show 0 + (i - 0) = i by omega]
  exact hW i i0 i1
def TkW (w : Int) (M M' : Mem) : Prop := (∀ c, c ≠ 6 → c ≠ 7 → c < 27 ∨ 70 < c → M' c = M c) ∧ ∀ i, 0 ≤ i → i < M 3 4 → M' 6 i = wayZ w (M 4) (M 3 4) (M 3 5) i
theorem hcP {M : Mem} (hI : PkI 3 M) : ∀ i, 0 ≤ i → i < M 3 4 → 1 ≤ M 4 i ∧ M 4 i ≤ 999 := fun i i0 i1 => by
  obtain ⟨n0, n1, k0, k1, f0, f1, r0, r1, s0, s1, hA⟩ := pkd_3 hI
  have := hA i i0 i1
  omega
theorem rg_I {M N : Mem} (hI : PkI 3 M) {w : Int} (hF : ∀ c, c ≠ 6 → c < 27 ∨ 70 < c → N c = M c) (hW : ∀ i, 0 ≤ i → i < M 3 4 → N 6 i = wayZ w (M 4) (M 3 4) (M 3 5) i) : PkI 3 N := by
  obtain ⟨n0, n1, k0, k1, f0, f1, r0, r1, s0, s1, hA⟩ := pkd_3 hI
  have e3 := hF 3 (by decide) (by omega)
  have e4 := hF 4 (by decide) (by omega)
  have e5 := hF 5 (by decide) (by omega)
  show 0 ≤ N 3 4 ∧ N 3 4 ≤ 16 ∧ 2 ≤ N 3 5 ∧ N 3 5 ≤ 5 ∧ 0 ≤ N 3 6 ∧ N 3 6 ≤ 999 ∧ 1 ≤ N 3 7 ∧ N 3 7 ≤ 99 ∧ 0 ≤ N 3 8 ∧ N 3 8 ≤ 99 ∧ ∀ i, 0 ≤ i → i < N 3 4 → 1 ≤ N 4 i ∧ N 4 i ≤ 999 ∧ 0 ≤ N 5 i ∧ N 5 i ≤ 999 ∧ 0 ≤ N 6 i ∧ N 6 i < N 3 5
  rw [e3, e4, e5]
  refine ⟨n0, n1, k0, k1, f0, f1, r0, r1, s0, s1, fun i i0 i1 => ?_⟩
  have q := hA i i0 i1
  have b := wayZ_b (w := w) k0 k1 n1 (hcP hI) i i0 i1
  rw [hW i i0 i1]
  omega
set_option maxHeartbeats 4000000 in
set_option maxRecDepth 20000 in
theorem c_take (D : Nat) (M : Mem) (hI : PkI 3 M) (w : Int) (hw : inR w) : CI (D + 22) 65 [.inr (.inr 0), .inl w] M (fun v M' => (¬ (0 ≤ w ∧ w < 4) ∧ v = -1 ∧ M' = M) ∨ ((0 ≤ w ∧ w < 4) ∧ (w = 3 ∧ 9 < M 3 4) ∧ v = -2 ∧ M' = M) ∨ ((0 ≤ w ∧ w < 4) ∧ ¬ (w = 3 ∧ 9 < M 3 4) ∧ v = grZ (fun g => sumG (M 5) (wayZ w (M 4) (M 3 4) (M 3 5)) (M 3 4) g) (M 3 5) - lsZ (fun g => sumG (M 5) (wayZ w (M 4) (M 3 4) (M 3 5)) (M 3 4) g) (M 3 5) ∧ TkW w M M')) := by
  refine mk_C mt_65 rfl (Nat.le_of_ble_eq_true rfl) (L := [some _, some _]) rfl ?_
  obtain ⟨n0, n1, k0, k1, f0, f1, r0, r1, s0, s1, hA⟩ := pkd_3 hI
  obtain ⟨w0, w1⟩ := id hw
  refine w_iload_n ta_65 rfl rfl ?_
  refine w_cI [_] _ ta_65 rfl rfl rfl mt_92 rfl rfl rfl rfl (Nat.le_of_ble_eq_true rfl) (fun q => by cases q) rfl (c_isWay _ M w hw) ?_
  rintro v M2 ⟨hv, rfl⟩
  refine w_if_ne ta_65 rfl ⟨by omega, by omega⟩ (fun h4 => ?_) (fun h4 => ?_)
  · refine w_aload_n ta_65 rfl rfl ?_
    refine w_iload_n ta_65 rfl rfl ?_
    refine w_cI [_, _] _ ta_65 rfl rfl rfl mt_93 rfl rfl rfl rfl (Nat.le_of_ble_eq_true rfl) (fun _ => rfl) rfl (c_wayIsOpen _ M2 hI w hw) ?_
    rintro v2 M3 ⟨hv2, rfl⟩
    refine w_if_ne ta_65 rfl ⟨by omega, by omega⟩ (fun h14 => ?_) (fun h14 => ?_)
    · refine w_aload_n ta_65 rfl rfl ?_
      refine w_iload_n ta_65 rfl rfl ?_
      refine w_cV [_, _] _ ta_65 rfl rfl rfl mt_97 rfl rfl rfl rfl (Nat.le_of_ble_eq_true rfl) (fun _ => rfl) rfl (c_regroup _ M3 hI w (by omega) (by omega) (by omega)) ?_
      rintro N ⟨hF, hW⟩
      have hIN := rg_I hI hF hW
      refine w_aload_n ta_65 rfl rfl ?_
      refine w_getR ta_65 rfl rfl ?_
      refine w_cI [_] _ ta_65 rfl rfl rfl mt_21 rfl rfl rfl rfl (Nat.le_of_ble_eq_true rfl) (fun _ => rfl) rfl (c_spread_3 _ N hIN) ?_
      rintro s N2 ⟨hs, hS⟩
      refine w_iret ta_65 rfl (Or.inl rfl) ?_
      refine ⟨_, rfl, Or.inr (Or.inr ⟨by omega, by omega, ?_, fun c c1 c2 c3 => (hS.1 c c2).trans (hF c c1 c3), fun i i0 i1 => ?_⟩)⟩
      · have e3 := hF 3 (by decide) (by omega)
        have eS : SG 3 N = fun g => sumG (M3 5) (wayZ w (M3 4) (M3 3 4) (M3 3 5)) (M3 3 4) g := by
          funext g
          show sumG (N 5) (N 6) (N 3 4) g = _
          rw [e3, hF 5 (by decide) (by omega)]
          exact sumG_cg g (fun _ _ _ => rfl) hW
        rw [hs, eS, e3]
      · rw [hS.1 6 (by decide)]; exact hW i i0 i1
    · refine w_bipush ta_65 rfl ?_
      refine w_iret ta_65 rfl (Or.inl rfl) ?_
      exact ⟨_, rfl, Or.inr (Or.inl ⟨by omega, by omega, rfl, rfl⟩)⟩
  · refine w_iconst ta_65 rfl ?_
    refine w_iret ta_65 rfl (Or.inl rfl) ?_
    exact ⟨_, rfl, Or.inl ⟨by omega, rfl, rfl⟩⟩
def woZ (w x : Int) (ch : Int → Int) (n k : Int) (home : Int → Int) : Int := if x = 0 then lsZ (waS w ch n k) k else if x = 1 then grZ (waS w ch n k) k - lsZ (waS w ch n k) k else sumZ (fun j => if wayZ w ch n k j ≠ home j then 1 else 0) n
theorem SW_w {M N : Mem} {w : Int} (hF : FrW M N) (hW : ∀ i, 0 ≤ i → i < M 3 4 → N 27 i = wayZ w (M 4) (M 3 4) (M 3 5) i) : SW N = waS w (M 4) (M 3 4) (M 3 5) := by
  funext g
  show sumG (N 4) (N 27) (N 3 4) g = _
  rw [hF 3 (by omega), hF 4 (by omega)]
  exact sumG_cg g (fun _ _ _ => rfl) hW
set_option maxHeartbeats 4000000 in
set_option maxRecDepth 20000 in
theorem c_would (D : Nat) (M : Mem) (hI : PkI 3 M) (w x : Int) (hw : inR w) (hx : inR x) : CI (D + 21) 66 [.inr (.inr 0), .inl w, .inl x] M (fun v M' => (¬ ((0 ≤ w ∧ w < 4) ∧ 0 ≤ x ∧ x ≤ 2) ∧ v = -1 ∧ M' = M) ∨ (((0 ≤ w ∧ w < 4) ∧ 0 ≤ x ∧ x ≤ 2) ∧ (w = 3 ∧ 9 < M 3 4) ∧ v = -2 ∧ M' = M) ∨ (((0 ≤ w ∧ w < 4) ∧ 0 ≤ x ∧ x ≤ 2) ∧ ¬ (w = 3 ∧ 9 < M 3 4) ∧ v = woZ w x (M 4) (M 3 4) (M 3 5) (M 6) ∧ FrW M M')) := by
  refine mk_C mt_66 rfl (Nat.le_of_ble_eq_true rfl) (L := [some _, some _, some _]) rfl ?_
  obtain ⟨n0, n1, k0, k1, f0, f1, r0, r1, s0, s1, hA⟩ := pkd_3 hI
  obtain ⟨w0, w1⟩ := id hw
  obtain ⟨x0, x1⟩ := id hx
  refine w_iload_n ta_66 rfl rfl ?_
  refine w_cI [_] _ ta_66 rfl rfl rfl mt_92 rfl rfl rfl rfl (Nat.le_of_ble_eq_true rfl) (fun q => by cases q) rfl (c_isWay _ M w hw) ?_
  rintro v M2 ⟨hv, rfl⟩
  refine w_if_eq ta_66 rfl ⟨by omega, by omega⟩ (fun h4 => ?_) (fun h4 => ?_)
  · refine w_iconst ta_66 rfl ?_
    refine w_iret ta_66 rfl (Or.inl rfl) ?_
    exact ⟨_, rfl, Or.inl ⟨by omega, rfl, rfl⟩⟩
  · refine w_iload_n ta_66 rfl rfl ?_
    refine w_iconst ta_66 rfl ?_
    refine w_iconst ta_66 rfl ?_
    refine w_cI [_, _, _] _ ta_66 rfl rfl rfl mt_89 rfl rfl rfl rfl (Nat.le_of_ble_eq_true rfl) (fun q => by cases q) rfl (c_win _ x 0 2 M2 hx (by decide) (by decide)) ?_
    rintro v2 M3 ⟨hv2, rfl⟩
    refine w_if_ne ta_66 rfl ⟨by omega, by omega⟩ (fun h13 => ?_) (fun h13 => ?_)
    · refine w_aload_n ta_66 rfl rfl ?_
      refine w_iload_n ta_66 rfl rfl ?_
      refine w_cI [_, _] _ ta_66 rfl rfl rfl mt_93 rfl rfl rfl rfl (Nat.le_of_ble_eq_true rfl) (fun _ => rfl) rfl (c_wayIsOpen _ M3 hI w hw) ?_
      rintro v3 M4 ⟨hv3, rfl⟩
      refine w_if_ne ta_66 rfl ⟨by omega, by omega⟩ (fun h23 => ?_) (fun h23 => ?_)
      · refine w_aload_n ta_66 rfl rfl ?_
        refine w_getR ta_66 rfl rfl ?_
        refine w_aload_n ta_66 rfl rfl ?_
        refine w_getR ta_66 rfl rfl ?_
        refine w_iload_n ta_66 rfl rfl ?_
        refine w_cV [_, _, _] _ ta_66 rfl rfl rfl mt_52 rfl rfl rfl rfl (Nat.le_of_ble_eq_true rfl) (fun _ => rfl) rfl (c_choose _ M4 hI w (by omega) (by omega) (by omega)) ?_
        rintro N ⟨hF, hW, hJ⟩
        have hIN := hF.I hI
        have e3 := hF 3 (by omega)
        have eS := SW_w hF hW
        refine w_iload_n ta_66 rfl rfl ?_
        rcases (show x = 0 ∨ x = 1 ∨ (x ≠ 0 ∧ x ≠ 1) by omega) with h42 | h42 | h42
        · refine w_lsw 68 ta_66 rfl ⟨by omega, by omega⟩ (by rw [h42]; rfl) ?_
          refine w_aload_n ta_66 rfl rfl ?_
          refine w_getR ta_66 rfl rfl ?_
          refine w_aload_n ta_66 rfl rfl ?_
          refine w_getR ta_66 rfl rfl ?_
          refine w_cI [_, _] _ ta_66 rfl rfl rfl mt_55 rfl rfl rfl rfl (Nat.le_of_ble_eq_true rfl) (fun _ => rfl) rfl (c_wLeastSum _ N hIN (fun i i0 i1 => by rw [e3] at i1 ⊢; rw [hW i i0 i1]; exact wayZ_b k0 k1 n1 (hcP hI) i i0 i1)) ?_
          rintro s N2 ⟨hs, hS⟩
          rw [eS, e3] at hs
          refine w_iret ta_66 rfl (Or.inl rfl) ?_
          refine ⟨_, rfl, Or.inr (Or.inr ⟨by omega, by omega, ?_, fun c hc => (hS.1 c (by omega)).trans (hF c hc)⟩)⟩
          unfold woZ
          rw [if_pos (by omega)]
          exact hs
        · refine w_lsw 80 ta_66 rfl ⟨by omega, by omega⟩ (by rw [h42]; rfl) ?_
          refine w_aload_n ta_66 rfl rfl ?_
          refine w_getR ta_66 rfl rfl ?_
          refine w_aload_n ta_66 rfl rfl ?_
          refine w_getR ta_66 rfl rfl ?_
          refine w_cI [_, _] _ ta_66 rfl rfl rfl mt_56 rfl rfl rfl rfl (Nat.le_of_ble_eq_true rfl) (fun _ => rfl) rfl (c_wSpread _ N hIN (fun i i0 i1 => by rw [e3] at i1 ⊢; rw [hW i i0 i1]; exact wayZ_b k0 k1 n1 (hcP hI) i i0 i1)) ?_
          rintro s N2 ⟨hs, hS⟩
          rw [eS, e3] at hs
          refine w_iret ta_66 rfl (Or.inl rfl) ?_
          refine ⟨_, rfl, Or.inr (Or.inr ⟨by omega, by omega, ?_, fun c hc => (hS.1 c (by omega)).trans (hF c hc)⟩)⟩
          unfold woZ
          rw [if_neg (by omega), if_pos (by omega)]
          exact hs
        · refine w_lsw 92 ta_66 rfl ⟨by omega, by omega⟩ (by show jmp 42 (Op.lookupswitch.offset [(0, 26), (1, 38)] 50 x) = 92; rw [Op.lookupswitch.offset_cons, if_neg (by omega), Op.lookupswitch.offset_cons, if_neg (by omega)]; rfl) ?_
          refine w_aload_n ta_66 rfl rfl ?_
          refine w_getR ta_66 rfl rfl ?_
          refine w_aload_n ta_66 rfl rfl ?_
          refine w_getR ta_66 rfl rfl ?_
          refine w_cI [_, _] _ ta_66 rfl rfl rfl mt_57 rfl rfl rfl rfl (Nat.le_of_ble_eq_true rfl) (fun _ => rfl) rfl (c_strangers _ N hIN (fun i i0 i1 => by rw [e3] at i1; have := wayZ_b (w := w) k0 k1 n1 (hcP hI) i i0 i1; rw [hW i i0 i1]; constructor <;> omega)) ?_
          rintro s N2 ⟨hs, rfl⟩
          rw [e3, hF 6 (by omega)] at hs
          rw [sumZ_cg (f := fun j => if N2 27 j ≠ M4 6 j then 1 else 0) (g := fun j => if wayZ w (M4 4) (M4 3 4) (M4 3 5) j ≠ M4 6 j then 1 else 0) (fun j j0 j1 => by rw [hW j j0 j1])] at hs
          refine w_iret ta_66 rfl (Or.inl rfl) ?_
          refine ⟨_, rfl, Or.inr (Or.inr ⟨by omega, by omega, ?_, hF⟩)⟩
          unfold woZ
          rw [if_neg (by omega), if_neg (by omega)]
          exact hs
      · refine w_bipush ta_66 rfl ?_
        refine w_iret ta_66 rfl (Or.inl rfl) ?_
        exact ⟨_, rfl, Or.inr (Or.inl ⟨by omega, by omega, rfl, rfl⟩)⟩
    · refine w_iconst ta_66 rfl ?_
      refine w_iret ta_66 rfl (Or.inl rfl) ?_
      exact ⟨_, rfl, Or.inl ⟨by omega, rfl, rfl⟩⟩
set_option maxHeartbeats 4000000 in
set_option maxRecDepth 20000 in
theorem c_where (D : Nat) (M : Mem) (hI : PkI 3 M) (w x : Int) (hw : inR w) (hx : inR x) : CI (D + 21) 67 [.inr (.inr 0), .inl w, .inl x] M (fun v M' => (¬ ((0 ≤ w ∧ w < 4) ∧ 0 ≤ x ∧ x < M 3 4) ∧ v = -1 ∧ M' = M) ∨ (((0 ≤ w ∧ w < 4) ∧ 0 ≤ x ∧ x < M 3 4) ∧ (w = 3 ∧ 9 < M 3 4) ∧ v = -2 ∧ M' = M) ∨ (((0 ≤ w ∧ w < 4) ∧ 0 ≤ x ∧ x < M 3 4) ∧ ¬ (w = 3 ∧ 9 < M 3 4) ∧ v = wayZ w (M 4) (M 3 4) (M 3 5) x ∧ FrW M M')) := by
  refine mk_C mt_67 rfl (Nat.le_of_ble_eq_true rfl) (L := [some _, some _, some _]) rfl ?_
  obtain ⟨n0, n1, k0, k1, f0, f1, r0, r1, s0, s1, hA⟩ := pkd_3 hI
  obtain ⟨w0, w1⟩ := id hw
  obtain ⟨x0, x1⟩ := id hx
  refine w_iload_n ta_67 rfl rfl ?_
  refine w_cI [_] _ ta_67 rfl rfl rfl mt_92 rfl rfl rfl rfl (Nat.le_of_ble_eq_true rfl) (fun q => by cases q) rfl (c_isWay _ M w hw) ?_
  rintro v M2 ⟨hv, rfl⟩
  refine w_if_eq ta_67 rfl ⟨by omega, by omega⟩ (fun h4 => ?_) (fun h4 => ?_)
  · refine w_iconst ta_67 rfl ?_
    refine w_iret ta_67 rfl (Or.inl rfl) ?_
    exact ⟨_, rfl, Or.inl ⟨by omega, rfl, rfl⟩⟩
  · refine w_aload_n ta_67 rfl rfl ?_
    refine w_iload_n ta_67 rfl rfl ?_
    refine w_cI [_, _] _ ta_67 rfl rfl rfl mt_90 rfl rfl rfl rfl (Nat.le_of_ble_eq_true rfl) (fun _ => rfl) rfl (c_isCell _ M2 hI x hx) ?_
    rintro v2 M3 ⟨hv2, rfl⟩
    refine w_if_ne ta_67 rfl ⟨by omega, by omega⟩ (fun h12 => ?_) (fun h12 => ?_)
    · refine w_aload_n ta_67 rfl rfl ?_
      refine w_iload_n ta_67 rfl rfl ?_
      refine w_cI [_, _] _ ta_67 rfl rfl rfl mt_93 rfl rfl rfl rfl (Nat.le_of_ble_eq_true rfl) (fun _ => rfl) rfl (c_wayIsOpen _ M3 hI w hw) ?_
      rintro v3 M4 ⟨hv3, rfl⟩
      refine w_if_ne ta_67 rfl ⟨by omega, by omega⟩ (fun h22 => ?_) (fun h22 => ?_)
      · refine w_aload_n ta_67 rfl rfl ?_
        refine w_getR ta_67 rfl rfl ?_
        refine w_aload_n ta_67 rfl rfl ?_
        refine w_getR ta_67 rfl rfl ?_
        refine w_iload_n ta_67 rfl rfl ?_
        refine w_cV [_, _, _] _ ta_67 rfl rfl rfl mt_52 rfl rfl rfl rfl (Nat.le_of_ble_eq_true rfl) (fun _ => rfl) rfl (c_choose _ M4 hI w (by omega) (by omega) (by omega)) ?_
        rintro N ⟨hF, hW, hJ⟩
        refine w_aload_n ta_67 rfl rfl ?_
        refine w_getR ta_67 rfl rfl ?_
        refine w_getR ta_67 rfl rfl ?_
        refine w_iload_n ta_67 rfl rfl ?_
        refine w_ialoadv (v := wayZ w (M4 4) (M4 3 4) (M4 3 5) x) ta_67 rfl rfl (by omega) (by omega) (by omega) (hW x (by omega) (by omega)) ?_
        refine w_iret ta_67 rfl (Or.inl rfl) ?_
        exact ⟨_, rfl, Or.inr (Or.inr ⟨by omega, by omega, rfl, hF⟩)⟩
      · refine w_bipush ta_67 rfl ?_
        refine w_iret ta_67 rfl (Or.inl rfl) ?_
        exact ⟨_, rfl, Or.inr (Or.inl ⟨by omega, by omega, rfl, rfl⟩)⟩
    · refine w_iconst ta_67 rfl ?_
      refine w_iret ta_67 rfl (Or.inl rfl) ?_
      exact ⟨_, rfl, Or.inl ⟨by omega, rfl, rfl⟩⟩
/-- how many of the first three ways reach m -/
def reZ (m : Int) (ch : Int → Int) (n k : Int) : Int → Int := sumZ (fun w => if m ≤ lsZ (waS w ch n k) k then 1 else 0)
theorem ls_b {w : Int} {ch : Int → Int} {n k : Int} (hn : n ≤ 16) (hc : ∀ i, 0 ≤ i → i < n → 1 ≤ ch i ∧ ch i ≤ 999) : 0 ≤ lsZ (waS w ch n k) k ∧ lsZ (waS w ch n k) k ≤ 15984 := sG_b hn hc _
set_option maxHeartbeats 4000000 in
set_option maxRecDepth 20000 in
theorem lp_reach (D : Nat) (M : Mem) (hI : PkI 3 M) (m : Int) (hm : inR m) : ∀ w : Int, 0 ≤ w → w ≤ 3 → ∀ N, FrW M N → Wp (D + 21) 98 (4, [some (.inr (.inr 0)), some (.inl m), some (.inl (reZ m (M 4) (M 3 4) (M 3 5) w)), some (.inl w)], [], N) (fun r M' => ∃ v, r = some (.inl v) ∧ (v = reZ m (M 4) (M 3 4) (M 3 5) 3 ∧ FrW M M')) := by
  obtain ⟨n0, n1, k0, k1, f0, f1, r0, r1, s0, s1, hA⟩ := pkd_3 hI
  refine loopZ 3 ?_
  intro w h0 h1 ih N hN
  refine w_iload_n ta_98 rfl rfl ?_
  refine w_iconst ta_98 rfl ?_
  refine w_icmp_ge ta_98 rfl ⟨by omega, by omega⟩ ⟨by omega, by omega⟩ (fun h6 => ?_) (fun h6 => ?_)
  · refine w_iload_n ta_98 rfl rfl ?_
    refine w_iret ta_98 rfl (Or.inl rfl) ?_
    exact ⟨_, rfl, by rw [show w = 3 by omega], hN⟩
  · have hIN := hN.I hI
    have e3 := hN 3 (by omega)
    have e4 := hN 4 (by omega)
    have ih := ih h6
    have lb := ls_b (w := w) (k := M 3 5) n1 (hcP hI)
    obtain ⟨m0, m1⟩ := id hm
    unfold reZ at ih
    rw [sumZ_s _ h0] at ih
    refine w_aload_n ta_98 rfl rfl ?_
    refine w_getR ta_98 rfl rfl ?_
    refine w_aload_n ta_98 rfl rfl ?_
    refine w_getR ta_98 rfl rfl ?_
    refine w_iload_n ta_98 rfl rfl ?_
    refine w_cV [_, _, _] _ ta_98 rfl rfl rfl mt_52 rfl rfl rfl rfl (Nat.le_of_ble_eq_true rfl) (fun _ => rfl) rfl (c_choose _ N hIN w h0 (by omega) (by omega)) ?_
    rintro N2 ⟨hF, hW, hJ⟩
    have eS := SW_w hF hW
    rw [e3, e4] at eS hW
    have hIN2 := hF.I hIN
    have e32 : N2 3 = M 3 := (hF 3 (by omega)).trans e3
    refine w_aload_n ta_98 rfl rfl ?_
    refine w_getR ta_98 rfl rfl ?_
    refine w_aload_n ta_98 rfl rfl ?_
    refine w_getR ta_98 rfl rfl ?_
    refine w_cI [_, _] _ ta_98 rfl rfl rfl mt_55 rfl rfl rfl rfl (Nat.le_of_ble_eq_true rfl) (fun _ => rfl) rfl (c_wLeastSum _ N2 hIN2 (fun i i0 i1 => by rw [e32] at i1 ⊢; rw [hW i i0 i1]; exact wayZ_b k0 k1 n1 (hcP hI) i i0 i1)) ?_
    rintro s N3 ⟨hs, hS⟩
    rw [eS, e32] at hs
    have hN3 : FrW M N3 := fun c hc => (hS.1 c (by omega)).trans ((hF c hc).trans (hN c hc))
    refine w_iload_n ta_98 rfl rfl ?_
    refine w_icmp_lt ta_98 rfl ⟨by omega, by omega⟩ ⟨by omega, by omega⟩ (fun h33 => ?_) (fun h33 => ?_)
    · refine w_iinc_3_4 ta_98 rfl rfl ?_
      refine w_goto ta_98 rfl ?_
      first
        | (rw [if_pos (by omega)] at ih; exact ih N3 hN3)
        | (rw [if_neg (by omega), Int.add_zero] at ih; exact ih N3 hN3)
    · refine w_iinc_2_4 ta_98 rfl rfl ?_
      refine w_iinc_3_4 ta_98 rfl rfl ?_
      refine w_goto ta_98 rfl ?_
      first
        | (rw [if_pos (by omega)] at ih; exact ih N3 hN3)
        | (rw [if_neg (by omega), Int.add_zero] at ih; exact ih N3 hN3)
set_option maxHeartbeats 4000000 in
set_option maxRecDepth 20000 in
theorem c_reach (D : Nat) (M : Mem) (hI : PkI 3 M) (m : Int) (hm : inR m) : CI (D + 21) 98 [.inr (.inr 0), .inl m] M (fun v M' => v = reZ m (M 4) (M 3 4) (M 3 5) 3 ∧ FrW M M') := by
  refine mk_C mt_98 rfl (Nat.le_of_ble_eq_true rfl) (L := [some _, some _, none, none]) rfl ?_
  refine w_iconst ta_98 rfl ?_
  refine w_istn_2_4 ta_98 rfl rfl ?_
  refine w_iconst ta_98 rfl ?_
  refine w_istn_3_4 ta_98 rfl rfl ?_
  exact lp_reach D M hI m hm 0 (by omega) (by omega) M (fun _ _ => rfl)
def boZ (x : Int) (ch : Int → Int) (n k : Int) (home : Int → Int) : Int := if x = 0 then sumZ ch n / k else if x = 1 then sumZ ch n / k - lsZ (fun g => sumG ch home n g) k else if x = 2 then reZ (sumZ ch n / k) ch n k 3 else -1
set_option maxHeartbeats 4000000 in
set_option maxRecDepth 20000 in
theorem c_bound (D : Nat) (M : Mem) (hI : PkI 3 M) (x : Int) (hx : inR x) : CI (D + 22) 68 [.inr (.inr 0), .inl x] M (fun v M' => v = boZ x (M 4) (M 3 4) (M 3 5) (M 6) ∧ Scr M M') := by
  refine mk_C mt_68 rfl (Nat.le_of_ble_eq_true rfl) (L := [some _, some _, none]) rfl ?_
  obtain ⟨n0, n1, k0, k1, f0, f1, r0, r1, s0, s1, hA⟩ := pkd_3 hI
  obtain ⟨x0, x1⟩ := id hx
  refine w_aload_n ta_68 rfl rfl ?_
  refine w_getR ta_68 rfl rfl ?_
  refine w_getR ta_68 rfl rfl ?_
  refine w_aload_n ta_68 rfl rfl ?_
  refine w_getR ta_68 rfl rfl ?_
  refine w_getI 4 ta_68 rfl rfl rfl ?_
  refine w_cI [_, _] _ ta_68 rfl rfl rfl mt_101 rfl rfl rfl rfl (Nat.le_of_ble_eq_true rfl) (fun q => by cases q) rfl (c_total _ 4 16 (M 3 4) M rfl (by decide) n0 (by omega)) ?_
  rintro t M2 ⟨ht, rfl⟩
  have tb := sumZ_b (f := M2 4) (n := M2 3 4) 999 n1 (by omega) (fun i i0 i1 => by have := hcP hI i i0 i1; omega)
  rw [← ht] at tb
  refine w_aload_n ta_68 rfl rfl ?_
  refine w_getR ta_68 rfl rfl ?_
  refine w_getI 5 ta_68 rfl rfl rfl ?_
  refine w_idiv ta_68 rfl (by omega) (by omega) (by omega) (by omega) ?_
  have tq : inR (t / M2 3 5) := by
    have a := Int.ediv_nonneg tb.1 (show 0 ≤ M2 3 5 by omega)
    have b := Int.ediv_le_self (M2 3 5) tb.1
    constructor <;> omega
  refine w_istn_2_3 ta_68 rfl rfl ?_
  refine w_iload_n ta_68 rfl rfl ?_
  rcases (show x = 0 ∨ x = 1 ∨ x = 2 ∨ (x < 0 ∨ 2 < x) by omega) with h27 | h27 | h27 | h27
  · refine w_tsw 52 ta_68 rfl ⟨by omega, by omega⟩ (by rw [h27]; rfl) ?_
    refine w_iload_n ta_68 rfl rfl ?_
    refine w_iret ta_68 rfl (Or.inl rfl) ?_
    refine ⟨_, rfl, ?_, Scr.rf _⟩
    unfold boZ
    rw [if_pos (by omega), ht]
  · refine w_tsw 54 ta_68 rfl ⟨by omega, by omega⟩ (by rw [h27]; rfl) ?_
    refine w_iload_n ta_68 rfl rfl ?_
    refine w_aload_n ta_68 rfl rfl ?_
    refine w_getR ta_68 rfl rfl ?_
    refine w_cI [_] _ ta_68 rfl rfl rfl mt_20 rfl rfl rfl rfl (Nat.le_of_ble_eq_true rfl) (fun _ => rfl) rfl (c_leastSumOfCharges _ M2 hI) ?_
    rintro s N ⟨hs, hS⟩
    refine w_isub ta_68 rfl ?_
    refine w_iret ta_68 rfl (Or.inl rfl) ?_
    refine ⟨_, rfl, ?_, hS.scr⟩
    unfold boZ
    rw [if_neg (by omega), if_pos (by omega), ht, hs]
    rfl
  · refine w_tsw 64 ta_68 rfl ⟨by omega, by omega⟩ (by rw [h27]; rfl) ?_
    refine w_aload_n ta_68 rfl rfl ?_
    refine w_iload_n ta_68 rfl rfl ?_
    refine w_cI [_, _] _ ta_68 rfl rfl rfl mt_98 rfl rfl rfl rfl (Nat.le_of_ble_eq_true rfl) (fun _ => rfl) rfl (c_reach _ M2 hI (t / M2 3 5) tq) ?_
    rintro s N ⟨hs, hF⟩
    refine w_iret ta_68 rfl (Or.inl rfl) ?_
    refine ⟨_, rfl, ?_, hF.scr⟩
    unfold boZ
    rw [if_neg (by omega), if_neg (by omega), if_pos (by omega), hs, ht]
  · refine w_tsw 70 ta_68 rfl ⟨by omega, by omega⟩ (if_pos h27) ?_
    refine w_iconst ta_68 rfl ?_
    refine w_iret ta_68 rfl (Or.inl rfl) ?_
    refine ⟨_, rfl, ?_, Scr.rf _⟩
    unfold boZ
    rw [if_neg (by omega), if_neg (by omega), if_neg (by omega)]
def joZ (x : Int) (ch : Int → Int) (n k : Int) : Int := if x < 0 then -1 else if x < ((n - 1).toNat : Int) then 100 * d1 ch n k x.toNat + d2 ch n k x.toNat else -4
set_option maxHeartbeats 4000000 in
set_option maxRecDepth 20000 in
theorem c_joined (D : Nat) (M : Mem) (hI : PkI 3 M) (x : Int) (hx : inR x) : CI (D + 21) 69 [.inr (.inr 0), .inl x] M (fun v M' => v = joZ x (M 4) (M 3 4) (M 3 5) ∧ FrW M M') := by
  refine mk_C mt_69 rfl (Nat.le_of_ble_eq_true rfl) (L := [some _, some _]) rfl ?_
  obtain ⟨n0, n1, k0, k1, f0, f1, r0, r1, s0, s1, hA⟩ := pkd_3 hI
  obtain ⟨x0, x1⟩ := id hx
  refine w_iload_n ta_69 rfl rfl ?_
  refine w_if_ge ta_69 rfl ⟨by omega, by omega⟩ (fun h1 => ?_) (fun h1 => ?_)
  · refine w_aload_n ta_69 rfl rfl ?_
    refine w_getR ta_69 rfl rfl ?_
    refine w_aload_n ta_69 rfl rfl ?_
    refine w_getR ta_69 rfl rfl ?_
    refine w_iconst ta_69 rfl ?_
    refine w_cV [_, _, _] _ ta_69 rfl rfl rfl mt_52 rfl rfl rfl rfl (Nat.le_of_ble_eq_true rfl) (fun _ => rfl) rfl (c_choose _ M hI 2 (by omega) (by omega) (by omega)) ?_
    rintro N ⟨hF, hW, hJ⟩
    have hJ := hJ rfl
    refine w_iload_n ta_69 rfl rfl ?_
    refine w_aload_n ta_69 rfl rfl ?_
    refine w_getR ta_69 rfl rfl ?_
    refine w_getR ta_69 rfl rfl ?_
    refine w_getIv 4 (v := ((M 3 4 - 1).toNat : Int)) ta_69 rfl rfl rfl hJ.1 ?_
    refine w_icmp_ge ta_69 rfl ⟨by omega, by omega⟩ ⟨by omega, by omega⟩ (fun h29 => ?_) (fun h29 => ?_)
    · refine w_bipush ta_69 rfl ?_
      refine w_iret ta_69 rfl (Or.inl rfl) ?_
      refine ⟨_, rfl, ?_, hF⟩
      unfold joZ
      first
        | rw [if_neg (by omega), if_pos (by omega)]
        | rw [if_neg (by omega), if_neg (by omega)]
    · refine w_aload_n ta_69 rfl rfl ?_
      refine w_getR ta_69 rfl rfl ?_
      refine w_getR ta_69 rfl rfl ?_
      refine w_getR ta_69 rfl rfl ?_
      refine w_iload_n ta_69 rfl rfl ?_
      refine w_ialoadv (v := 100 * d1 (M 4) (M 3 4) (M 3 5) x.toNat + d2 (M 4) (M 3 4) (M 3 5) x.toNat) ta_69 rfl rfl (by omega) (by omega) (by omega) (by have q := hJ.2 x.toNat (by omega); rw [show ((x.toNat : Nat) : Int) = x by omega] at q; exact q) ?_
      refine w_goto ta_69 rfl ?_
      refine w_iret ta_69 rfl (Or.inl rfl) ?_
      refine ⟨_, rfl, ?_, hF⟩
      unfold joZ
      first
        | rw [if_neg (by omega), if_pos (by omega)]
        | rw [if_neg (by omega), if_neg (by omega)]
  · refine w_iconst ta_69 rfl ?_
    refine w_iret ta_69 rfl (Or.inl rfl) ?_
    exact ⟨_, rfl, by unfold joZ; rw [if_pos (by omega)], fun _ _ => rfl⟩
set_option maxHeartbeats 4000000 in
set_option maxRecDepth 20000 in
theorem lp_byTurns2 (D : Nat) (M : Mem) (n0 : 0 ≤ M 3 4) (n1 : M 3 4 ≤ 16) (k0 : 2 ≤ M 3 5) (k1 : M 3 5 ≤ 5) : ∀ i : Int, 0 ≤ i → i ≤ M 3 4 → Wp D 53 (2, [some (.inr (.inr 26)), some (.inr (.inr 3)), some (.inl i)], [], setC M 27 (mdF (M 27) (M 3 5) i)) (fun r M' => r = none ∧ M' = setC M 27 (mdF (M 27) (M 3 5) (M 3 4))) := by
  refine loopZ (M 3 4) ?_
  intro i h0 h1 ih
  refine w_iload_n ta_53 rfl rfl ?_
  refine w_aload_n ta_53 rfl rfl ?_
  refine w_getIv 4 (v := M 3 4) ta_53 rfl rfl rfl rfl ?_
  refine w_icmp_ge ta_53 rfl ⟨by omega, by omega⟩ ⟨by omega, by omega⟩ (fun h7 => ?_) (fun h7 => ?_)
  · refine w_vret ta_53 rfl ?_
    exact ⟨rfl, by rw [show i = M 3 4 by omega]⟩
  · refine w_aload_n ta_53 rfl rfl ?_
    refine w_getR ta_53 rfl rfl ?_
    refine w_iload_n ta_53 rfl rfl ?_
    refine w_iload_n ta_53 rfl rfl ?_
    refine w_aload_n ta_53 rfl rfl ?_
    refine w_getIv 5 (v := M 3 5) ta_53 rfl rfl rfl rfl ?_
    refine w_irem ta_53 rfl (by omega) (by omega) (by omega) (by omega) ?_
    refine w_iastore ta_53 rfl rfl (by omega) (by omega) (by omega) ?_
    refine w_iinc_2_3 ta_53 rfl rfl ?_
    refine w_goto ta_53 rfl ?_
    rw [wr_sc, mdF_s _ _ h0]
    exact ih h7
set_option maxHeartbeats 4000000 in
set_option maxRecDepth 20000 in
theorem c_byTurns2 (D : Nat) (M : Mem) (n0 : 0 ≤ M 3 4) (n1 : M 3 4 ≤ 16) (k0 : 2 ≤ M 3 5) (k1 : M 3 5 ≤ 5) : CV D 53 [.inr (.inr 26), .inr (.inr 3)] M (fun M' => M' = setC M 27 (mdF (M 27) (M 3 5) (M 3 4))) := by
  refine mk_C mt_53 rfl (Nat.le_of_ble_eq_true rfl) (L := [some _, some _, none]) rfl ?_
  refine w_iconst ta_53 rfl ?_
  refine w_istn_2_3 ta_53 rfl rfl ?_
  have q := lp_byTurns2 D M n0 n1 k0 k1 0 (by omega) n0
  rw [mdF_0, sc_id] at q
  exact q
set_option maxHeartbeats 4000000 in
set_option maxRecDepth 20000 in
theorem c_choose0 (D : Nat) (M : Mem) (n0 : 0 ≤ M 3 4) (n1 : M 3 4 ≤ 16) (k0 : 2 ≤ M 3 5) (k1 : M 3 5 ≤ 5) : CV (D + 20) 52 [.inr (.inr 26), .inr (.inr 3), .inl 0] M (fun M' => M' = setC M 27 (mdF (M 27) (M 3 5) (M 3 4))) := by
  refine mk_C mt_52 rfl (Nat.le_of_ble_eq_true rfl) (L := [some _, some _, some _]) rfl ?_
  refine w_iload_n ta_52 rfl rfl ?_
  refine w_tsw 66 ta_52 rfl ⟨by omega, by omega⟩ (if_pos (by omega)) ?_
  refine w_aload_n ta_52 rfl rfl ?_
  refine w_aload_n ta_52 rfl rfl ?_
  refine w_cV [_, _] _ ta_52 rfl rfl rfl mt_53 rfl rfl rfl rfl (Nat.le_of_ble_eq_true rfl) (fun _ => rfl) rfl (c_byTurns2 _ M n0 n1 k0 k1) ?_
  rintro N hN
  refine w_vret ta_52 rfl ?_
  exact ⟨rfl, hN⟩
set_option maxHeartbeats 4000000 in
set_option maxRecDepth 20000 in
theorem c_regroup2 (D : Nat) (M : Mem) (n0 : 0 ≤ M 3 4) (n1 : M 3 4 ≤ 16) (k0 : 2 ≤ M 3 5) (k1 : M 3 5 ≤ 5) : CV (D + 21) 97 [.inr (.inr 0), .inl 0] M (fun M' => (∀ c, c ≠ 6 → c < 27 ∨ 70 < c → M' c = M c) ∧ ∀ i, 0 ≤ i → i < M 3 4 → M' 6 i = i % M 3 5) := by
  refine mk_C mt_97 rfl (Nat.le_of_ble_eq_true rfl) (L := [some _, some _]) rfl ?_
  refine w_aload_n ta_97 rfl rfl ?_
  refine w_getR ta_97 rfl rfl ?_
  refine w_aload_n ta_97 rfl rfl ?_
  refine w_getR ta_97 rfl rfl ?_
  refine w_iload_n ta_97 rfl rfl ?_
  refine w_cV [_, _, _] _ ta_97 rfl rfl rfl mt_52 rfl rfl rfl rfl (Nat.le_of_ble_eq_true rfl) (fun _ => rfl) rfl (c_choose0 _ M n0 n1 k0 k1) ?_
  rintro N hN
  refine w_aload_n ta_97 rfl rfl ?_
  refine w_getR ta_97 rfl rfl ?_
  refine w_getR ta_97 rfl rfl ?_
  refine w_iconst ta_97 rfl ?_
  refine w_aload_n ta_97 rfl rfl ?_
  refine w_getR ta_97 rfl rfl ?_
  refine w_getR ta_97 rfl rfl ?_
  refine w_iconst ta_97 rfl ?_
  refine w_aload_n ta_97 rfl rfl ?_
  refine w_getR ta_97 rfl rfl ?_
  refine w_getIv 4 (v := M 3 4) ta_97 rfl rfl rfl (by rw [hN, sc_n _ _ (by decide)]) ?_
  refine w_acopy ta_97 rfl rfl rfl (by omega) (by omega) (by omega) (by omega) (by omega) (by omega) (Nat.le_of_ble_eq_true rfl) ?_
  refine w_vret ta_97 rfl ?_
  refine ⟨rfl, fun c c1 c2 => by rw [sc_n _ _ c1, hN, sc_n _ _ (by omega)], fun i i0 i1 => ?_⟩
  rw [sc_s]
  unfold cpI
  rw [if_pos (by omega), show 0 + (i - 0) = i by omega, hN, sc_s]
  exact if_pos ⟨i0, i1⟩
set_option maxHeartbeats 4000000 in
set_option maxRecDepth 20000 in
theorem c_groups (D : Nat) (M : Mem) (hI : PkI 3 M) (x : Int) (hx : inR x) : CI (D + 22) 77 [.inr (.inr 0), .inl x] M (fun v M' => (¬ (2 ≤ x ∧ x ≤ 5) ∧ v = -1 ∧ M' = M) ∨ ((2 ≤ x ∧ x ≤ 5) ∧ v = M 3 5 ∧ (∀ c, c ≠ 3 → c ≠ 6 → c < 27 ∨ 70 < c → M' c = M c) ∧ M' 3 = upI (M 3) 5 x ∧ ∀ i, 0 ≤ i → i < M 3 4 → M' 6 i = i % x)) := by
  refine mk_C mt_77 rfl (Nat.le_of_ble_eq_true rfl) (L := [some _, some _, none]) rfl ?_
  obtain ⟨n0, n1, k0, k1, f0, f1, r0, r1, s0, s1, hA⟩ := pkd_3 hI
  obtain ⟨x0, x1⟩ := id hx
  refine w_iload_n ta_77 rfl rfl ?_
  refine w_iconst ta_77 rfl ?_
  refine w_iconst ta_77 rfl ?_
  refine w_cI [_, _, _] _ ta_77 rfl rfl rfl mt_89 rfl rfl rfl rfl (Nat.le_of_ble_eq_true rfl) (fun q => by cases q) rfl (c_win _ x 2 5 M hx (by decide) (by decide)) ?_
  rintro v M2 ⟨hv, rfl⟩
  refine w_if_ne ta_77 rfl ⟨by omega, by omega⟩ (fun h6 => ?_) (fun h6 => ?_)
  · refine w_aload_n ta_77 rfl rfl ?_
    refine w_getR ta_77 rfl rfl ?_
    refine w_getI 5 ta_77 rfl rfl rfl ?_
    refine w_istn_2_3 ta_77 rfl rfl ?_
    refine w_aload_n ta_77 rfl rfl ?_
    refine w_getR ta_77 rfl rfl ?_
    refine w_iload_n ta_77 rfl rfl ?_
    refine w_putI 5 ta_77 rfl rfl rfl ?_
    refine w_aload_n ta_77 rfl rfl ?_
    refine w_iconst ta_77 rfl ?_
    refine w_cV [_, _] _ ta_77 rfl rfl rfl mt_97 rfl rfl rfl rfl (Nat.le_of_ble_eq_true rfl) (fun _ => rfl) rfl (c_regroup2 _ (wr M2 3 5 x) (by rw [wr_s, up_n _ _ (by decide)]; exact n0) (by rw [wr_s, up_n _ _ (by decide)]; exact n1) (by rw [wr_s, up_s]; omega) (by rw [wr_s, up_s]; omega)) ?_
    rintro N ⟨hF, hW⟩
    rw [wr_s, up_s, up_n _ _ (by decide)] at hW
    refine w_iload_n ta_77 rfl rfl ?_
    refine w_iret ta_77 rfl (Or.inl rfl) ?_
    refine ⟨_, rfl, Or.inr ⟨by omega, rfl, fun c c1 c2 c3 => by rw [hF c c2 c3, wr_n _ _ _ c1], by rw [hF 3 (by decide) (by omega), wr_s], hW⟩⟩
  · refine w_iconst ta_77 rfl ?_
    refine w_iret ta_77 rfl (Or.inl rfl) ?_
    exact ⟨_, rfl, Or.inl ⟨by omega, rfl, rfl⟩⟩
