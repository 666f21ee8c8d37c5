/-! way 2, the class -/
theorem rw_h {i : Int} (h0 : 0 ≤ i) (h1 : i < 16) : ([32, 33, 34, 35, 36, 37, 38, 39, 40, 41, 42, 43, 44, 45, 46, 47] : List Nat)[i.toNat]? = some (32 + i.toNat) ∧ ([49, 50, 51, 52, 53, 54, 55, 56, 57, 58, 59, 60, 61, 62, 63, 64] : List Nat)[i.toNat]? = some (49 + i.toNat) ∧ arrN 0 (32 + i.toNat) = some 5 ∧ arrN 0 (49 + i.toNat) = some 5 := by
  obtain ⟨a, rfl⟩ := Int.eq_ofNat_of_zero_le h0
  simp only [Int.toNat_natCast]
  have ha : a < 16 := by omega
  have key : ∀ a : Nat, a < 16 → ([32, 33, 34, 35, 36, 37, 38, 39, 40, 41, 42, 43, 44, 45, 46, 47] : List Nat)[a]? = some (32 + a) ∧ ([49, 50, 51, 52, 53, 54, 55, 56, 57, 58, 59, 60, 61, 62, 63, 64] : List Nat)[a]? = some (49 + a) ∧ arrN 0 (32 + a) = some 5 ∧ arrN 0 (49 + a) = some 5 := by decide
  exact key a ha
/-- the parts lie in the class's rows -/
def CD (N : Mem) (ch : Int → Int) (n k : Int) (H part : Int → Int) : Prop := N 30 5 = n ∧ N 30 6 = k ∧ (∀ p, 0 ≤ p → p < n → N 65 p = 1 - part p) ∧ ∀ p g, 0 ≤ p → p < n → part p = 1 → 0 ≤ g → g < k → N (32 + p.toNat) g = sP ch (pr H (5 * p + g)) n ∧ N (49 + p.toNat) g = bP (pr H (5 * p + g)) n
set_option maxHeartbeats 4000000 in
set_option maxRecDepth 20000 in
theorem c_width (D : Nat) (N : Mem) (p : Int) (p0 : 0 ≤ p) (p1 : p < 16) (k0 : 2 ≤ N 30 6) (k1 : N 30 6 ≤ 5) : CI D 8 [.inr (.inr 30), .inl p] N (fun v M' => v = N (32 + p.toNat) 0 - N (32 + p.toNat) (N 30 6 - 1) ∧ M' = N) := by
  refine mk_C mt_8 rfl (Nat.le_of_ble_eq_true rfl) (L := [some _, some _]) rfl ?_
  refine w_aload_n ta_8 rfl rfl ?_
  refine w_getR ta_8 rfl rfl ?_
  refine w_iload_n ta_8 rfl rfl ?_
  refine w_aaload (d := 32 + p.toNat) ta_8 rfl rfl (by omega) (by simp; omega) (by decide) (rw_h p0 p1).1 ?_
  refine w_iconst ta_8 rfl ?_
  refine w_iaload ta_8 rfl (rw_h p0 p1).2.2.1 (by decide) (by decide) (by omega) ?_
  refine w_aload_n ta_8 rfl rfl ?_
  refine w_getR ta_8 rfl rfl ?_
  refine w_iload_n ta_8 rfl rfl ?_
  refine w_aaload (d := 32 + p.toNat) ta_8 rfl rfl (by omega) (by simp; omega) (by decide) (rw_h p0 p1).1 ?_
  refine w_aload_n ta_8 rfl rfl ?_
  refine w_getI 6 ta_8 rfl rfl rfl ?_
  refine w_iconst ta_8 rfl ?_
  refine w_isub ta_8 rfl ?_
  refine w_iaload ta_8 rfl (rw_h p0 p1).2.2.1 (by omega) (by omega) (by omega) ?_
  refine w_isub ta_8 rfl ?_
  refine w_iret ta_8 rfl (Or.inl rfl) ?_
  exact ⟨_, rfl, rfl, rfl⟩
set_option maxHeartbeats 4000000 in
set_option maxRecDepth 20000 in
theorem lp_widestBut (D : Nat) (N : Mem) (ch : Int → Int) (n k : Int) (H part : Int → Int) (hn : n ≤ 16) (k0 : 2 ≤ k) (k1 : k ≤ 5) (hc : ∀ i, 0 ≤ i → i < n → 1 ≤ ch i ∧ ch i ≤ 999) (pp : ∀ p, part p = 0 ∨ part p = 1) (hC : CD N ch n k H part) (n0 : 0 ≤ n) (but : Int) (hb : inR but) : ∀ i : Int, 0 ≤ i → i ≤ n → Wp (D + 1) 7 (5, [some (.inr (.inr 30)), some (.inl but), some (.inl (stZ (dU part but) (dD ch n k H) i 1)), some (.inl i)], [], N) (fun r M' => ∃ v, r = some (.inl v) ∧ (v = dW ch n k H part but ∧ M' = N)) := by
  refine loopZ n ?_
  intro i h0 h1 ih
  refine w_iload_n ta_7 rfl rfl ?_
  refine w_aload_n ta_7 rfl rfl ?_
  refine w_getIv 5 (v := n) ta_7 rfl rfl rfl hC.1 ?_
  refine w_icmp_ge ta_7 rfl ⟨by omega, by omega⟩ ⟨by omega, by omega⟩ (fun h10 => ?_) (fun h10 => ?_)
  · refine w_iload_n ta_7 rfl rfl ?_
    refine w_iret ta_7 rfl (Or.inl rfl) ?_
    exact ⟨_, rfl, by rw [show i = n by omega]; rfl, rfl⟩
  · obtain ⟨b0, b1⟩ := id hb
    have pi := pp i
    have sb := stZ_b (dU part but) (dD ch n k H) 1 h0
    have ih := ih h10
    rw [stZ_s _ _ _ h0] at ih
    refine w_aload_n ta_7 rfl rfl ?_
    refine w_getR ta_7 rfl rfl ?_
    refine w_iload_n ta_7 rfl rfl ?_
    refine w_baloadv (v := 1 - part i) ta_7 rfl rfl (by omega) (by omega) (by omega) (hC.2.2.1 i h0 h10) ?_
    refine w_if_ne ta_7 rfl ⟨by omega, by omega⟩ (fun h19 => ?_) (fun h19 => ?_)
    · rw [if_neg (fun q => by have := q.1; unfold dU at this; rw [if_neg (by omega)] at this; omega)] at ih
      refine w_iinc_3_4 ta_7 rfl rfl ?_
      refine w_goto ta_7 rfl ?_
      exact ih
    · have hpi : part i = 1 := by omega
      refine w_iload_n ta_7 rfl rfl ?_
      refine w_iload_n ta_7 rfl rfl ?_
      refine w_icmp_eq ta_7 rfl ⟨by omega, by omega⟩ ⟨by omega, by omega⟩ (fun h24 => ?_) (fun h24 => ?_)
      · rw [if_neg (fun q => by have := q.1; unfold dU at this; rw [if_neg (by omega)] at this; omega)] at ih
        refine w_iinc_3_4 ta_7 rfl rfl ?_
        refine w_goto ta_7 rfl ?_
        exact ih
      · have hu : dU part but i = 1 := if_pos ⟨hpi, h24⟩
        refine w_iload_n ta_7 rfl rfl ?_
        refine w_bipush ta_7 rfl ?_
        refine w_icmp_eq ta_7 rfl ⟨by omega, by omega⟩ ⟨by omega, by omega⟩ (fun h30 => ?_) (fun h30 => ?_)
        · rw [if_pos ⟨hu, Or.inl h30⟩] at ih
          refine w_iload_n ta_7 rfl rfl ?_
          refine w_istn_2_4 ta_7 rfl rfl ?_
          refine w_iinc_3_4 ta_7 rfl rfl ?_
          refine w_goto ta_7 rfl ?_
          exact ih
        · have sb := sb.resolve_left h30
          have su := sb.2.2
          unfold dU at su
          have sq : part (stZ (dU part but) (dD ch n k H) i 1) = 1 := by
            unfold dU
            refine Classical.byContradiction fun z => ?_
            rw [if_neg (fun q => z q.1)] at su
            omega
          refine w_aload_n ta_7 rfl rfl ?_
          refine w_iload_n ta_7 rfl rfl ?_
          refine w_cI [_, _] _ ta_7 rfl rfl rfl mt_8 rfl rfl rfl rfl (Nat.le_of_ble_eq_true rfl) (fun _ => rfl) rfl (c_width _ N i h0 (by omega) (by rw [hC.2.1]; exact k0) (by rw [hC.2.1]; exact k1)) ?_
          rintro v N2 ⟨hv, rfl⟩
          have ev : v = dD ch n k H i := by
            rw [hv, hC.2.1, (hC.2.2.2 i 0 h0 h10 (by omega) (by omega) (by omega)).1, (hC.2.2.2 i (k - 1) h0 h10 (by omega) (by omega) (by omega)).1]
            rfl
          have bv1 := sP_b (ch := ch) (pr H (5 * i + 0)) hn hc
          have bv2 := sP_b (ch := ch) (pr H (5 * i + (k - 1))) hn hc
          have vb : -16000 ≤ v ∧ v ≤ 16000 := by rw [ev]; unfold dD; omega
          refine w_aload_n ta_7 rfl rfl ?_
          refine w_iload_n ta_7 rfl rfl ?_
          refine w_cI [_, _] _ ta_7 rfl rfl rfl mt_8 rfl rfl rfl rfl (Nat.le_of_ble_eq_true rfl) (fun _ => rfl) rfl (c_width _ N2 _ sb.1 (by omega) (by rw [hC.2.1]; exact k0) (by rw [hC.2.1]; exact k1)) ?_
          rintro w N3 ⟨hw, rfl⟩
          have ew : w = dD ch n k H (stZ (dU part but) (dD ch n k H) i 1) := by
            rw [hw, hC.2.1, (hC.2.2.2 _ 0 sb.1 (by omega) sq (by omega) (by omega)).1, (hC.2.2.2 _ (k - 1) sb.1 (by omega) sq (by omega) (by omega)).1]
            rfl
          have bw1 := sP_b (ch := ch) (pr H (5 * (stZ (dU part but) (dD ch n k H) i 1) + 0)) hn hc
          have bw2 := sP_b (ch := ch) (pr H (5 * (stZ (dU part but) (dD ch n k H) i 1) + (k - 1))) hn hc
          have ew2 : w = sP ch (pr H (5 * (stZ (dU part but) (dD ch n k H) i 1) + 0)) n - sP ch (pr H (5 * (stZ (dU part but) (dD ch n k H) i 1) + (k - 1))) n := ew
          have wb : -16000 ≤ w ∧ w ≤ 16000 := by omega
          refine w_icmp_le ta_7 rfl ⟨by omega, by omega⟩ ⟨by omega, by omega⟩ (fun h43 => ?_) (fun h43 => ?_)
          · rw [if_neg (fun q => by have := q.2.resolve_left h30; omega)] at ih
            refine w_iinc_3_4 ta_7 rfl rfl ?_
            refine w_goto ta_7 rfl ?_
            exact ih
          · rw [if_pos ⟨hu, Or.inr (by omega)⟩] at ih
            refine w_iload_n ta_7 rfl rfl ?_
            refine w_istn_2_4 ta_7 rfl rfl ?_
            refine w_iinc_3_4 ta_7 rfl rfl ?_
            refine w_goto ta_7 rfl ?_
            exact ih
set_option maxHeartbeats 4000000 in
set_option maxRecDepth 20000 in
theorem c_widestBut (D : Nat) (N : Mem) (ch : Int → Int) (n k : Int) (H part : Int → Int) (hn : n ≤ 16) (k0 : 2 ≤ k) (k1 : k ≤ 5) (hc : ∀ i, 0 ≤ i → i < n → 1 ≤ ch i ∧ ch i ≤ 999) (pp : ∀ p, part p = 0 ∨ part p = 1) (hC : CD N ch n k H part) (n0 : 0 ≤ n) (but : Int) (hb : inR but) : CI (D + 1) 7 [.inr (.inr 30), .inl but] N (fun v M' => v = dW ch n k H part but ∧ M' = N) := by
  refine mk_C mt_7 rfl (Nat.le_of_ble_eq_true rfl) (L := [some _, some _, none, none]) rfl ?_
  refine w_bipush ta_7 rfl ?_
  refine w_istn_2_4 ta_7 rfl rfl ?_
  refine w_iconst ta_7 rfl ?_
  refine w_istn_3_4 ta_7 rfl rfl ?_
  exact lp_widestBut D N ch n k H part hn k0 k1 hc pp hC n0 but hb 0 (by omega) n0
set_option maxHeartbeats 4000000 in
set_option maxRecDepth 20000 in
theorem c_isAheadD (D : Nat) (N : Mem) (ch : Int → Int) (n p g h : Int) (P Q : Int → Bool) (hn : n ≤ 16) (hc : ∀ i, 0 ≤ i → i < n → 1 ≤ ch i ∧ ch i ≤ 999) (p0 : 0 ≤ p) (p1 : p < 16) (g0 : 0 ≤ g) (g1 : g < 5) (h0 : 0 ≤ h) (h1 : h < 5) (e1 : N (32 + p.toNat) g = sP ch P n) (e2 : N (49 + p.toNat) g = bP P n) (e3 : N (32 + p.toNat) h = sP ch Q n) (e4 : N (49 + p.toNat) h = bP Q n) : CI D 10 [.inr (.inr 30), .inl p, .inl g, .inl h] N (fun v M' => ((v = 1 ∧ dK ch n Q < dK ch n P) ∨ (v = 0 ∧ dK ch n P ≤ dK ch n Q)) ∧ M' = N) := by
  refine mk_C mt_10 rfl (Nat.le_of_ble_eq_true rfl) (L := [some _, some _, some _, some _, none, none]) rfl ?_
  have lt := dK_lt (ch := ch) P Q hn
  have b1 := sP_b (ch := ch) P hn hc
  have b2 := sP_b (ch := ch) Q hn hc
  have l1 := lwP_b P hn
  have l2 := lwP_b Q hn
  refine w_aload_n ta_10 rfl rfl ?_
  refine w_getR ta_10 rfl rfl ?_
  refine w_iload_n ta_10 rfl rfl ?_
  refine w_aaload (d := 32 + p.toNat) ta_10 rfl rfl (by omega) (by simp; omega) (by decide) (rw_h p0 p1).1 ?_
  refine w_iload_n ta_10 rfl rfl ?_
  refine w_ialoadv (v := sP ch P n) ta_10 rfl (rw_h p0 p1).2.2.1 (by omega) (by omega) (by omega) e1 ?_
  refine w_aload_n ta_10 rfl rfl ?_
  refine w_getR ta_10 rfl rfl ?_
  refine w_iload_n ta_10 rfl rfl ?_
  refine w_aaload (d := 32 + p.toNat) ta_10 rfl rfl (by omega) (by simp; omega) (by decide) (rw_h p0 p1).1 ?_
  refine w_iload_n ta_10 rfl rfl ?_
  refine w_ialoadv (v := sP ch Q n) ta_10 rfl (rw_h p0 p1).2.2.1 (by omega) (by omega) (by omega) e3 ?_
  refine w_icmp_eq ta_10 rfl ⟨by omega, by omega⟩ ⟨by omega, by omega⟩ (fun h16 => ?_) (fun h16 => ?_)
  · refine w_aload_n ta_10 rfl rfl ?_
    refine w_getR ta_10 rfl rfl ?_
    refine w_iload_n ta_10 rfl rfl ?_
    refine w_aaload (d := 49 + p.toNat) ta_10 rfl rfl (by omega) (by simp; omega) (by decide) (rw_h p0 p1).2.1 ?_
    refine w_iload_n ta_10 rfl rfl ?_
    refine w_ialoadv (v := bP P n) ta_10 rfl (rw_h p0 p1).2.2.2 (by omega) (by omega) (by omega) e2 ?_
    refine w_ist_4_6 ta_10 rfl rfl ?_
    refine w_aload_n ta_10 rfl rfl ?_
    refine w_getR ta_10 rfl rfl ?_
    refine w_iload_n ta_10 rfl rfl ?_
    refine w_aaload (d := 49 + p.toNat) ta_10 rfl rfl (by omega) (by simp; omega) (by decide) (rw_h p0 p1).2.1 ?_
    refine w_iload_n ta_10 rfl rfl ?_
    refine w_ialoadv (v := bP Q n) ta_10 rfl (rw_h p0 p1).2.2.2 (by omega) (by omega) (by omega) e4 ?_
    refine w_ist_5_6 ta_10 rfl rfl ?_
    refine w_iload ta_10 rfl rfl ?_
    refine w_iload ta_10 rfl rfl ?_
    refine w_ineg ta_10 rfl ?_
    refine w_iand ta_10 rfl ?_
    refine w_iload ta_10 rfl rfl ?_
    refine w_iload ta_10 rfl rfl ?_
    refine w_ineg ta_10 rfl ?_
    refine w_iand ta_10 rfl ?_
    rw [show iAnd (bP P n) (-bP P n) = lwP P n from rfl, show iAnd (bP Q n) (-bP Q n) = lwP Q n from rfl]
    refine w_icmp_ge ta_10 rfl ⟨by omega, by omega⟩ ⟨by omega, by omega⟩ (fun h76 => ?_) (fun h76 => ?_)
    · refine w_iconst ta_10 rfl ?_
      refine w_iret ta_10 rfl (Or.inr ⟨rfl, by omega⟩) ?_
      refine ⟨_, rfl, ?_, rfl⟩
      first
        | (refine Or.inl ⟨rfl, lt.mpr ?_⟩; omega)
        | (refine Or.inr ⟨rfl, Int.not_lt.mp (fun z => ?_)⟩; have := lt.mp z; omega)
    · refine w_iconst ta_10 rfl ?_
      refine w_goto ta_10 rfl ?_
      refine w_iret ta_10 rfl (Or.inr ⟨rfl, by omega⟩) ?_
      refine ⟨_, rfl, ?_, rfl⟩
      first
        | (refine Or.inl ⟨rfl, lt.mpr ?_⟩; omega)
        | (refine Or.inr ⟨rfl, Int.not_lt.mp (fun z => ?_)⟩; have := lt.mp z; omega)
  · refine w_aload_n ta_10 rfl rfl ?_
    refine w_getR ta_10 rfl rfl ?_
    refine w_iload_n ta_10 rfl rfl ?_
    refine w_aaload (d := 32 + p.toNat) ta_10 rfl rfl (by omega) (by simp; omega) (by decide) (rw_h p0 p1).1 ?_
    refine w_iload_n ta_10 rfl rfl ?_
    refine w_ialoadv (v := sP ch P n) ta_10 rfl (rw_h p0 p1).2.2.1 (by omega) (by omega) (by omega) e1 ?_
    refine w_aload_n ta_10 rfl rfl ?_
    refine w_getR ta_10 rfl rfl ?_
    refine w_iload_n ta_10 rfl rfl ?_
    refine w_aaload (d := 32 + p.toNat) ta_10 rfl rfl (by omega) (by simp; omega) (by decide) (rw_h p0 p1).1 ?_
    refine w_iload_n ta_10 rfl rfl ?_
    refine w_ialoadv (v := sP ch Q n) ta_10 rfl (rw_h p0 p1).2.2.1 (by omega) (by omega) (by omega) e3 ?_
    refine w_icmp_le ta_10 rfl ⟨by omega, by omega⟩ ⟨by omega, by omega⟩ (fun h35 => ?_) (fun h35 => ?_)
    · refine w_iconst ta_10 rfl ?_
      refine w_iret ta_10 rfl (Or.inr ⟨rfl, by omega⟩) ?_
      refine ⟨_, rfl, ?_, rfl⟩
      first
        | (refine Or.inl ⟨rfl, lt.mpr ?_⟩; omega)
        | (refine Or.inr ⟨rfl, Int.not_lt.mp (fun z => ?_)⟩; have := lt.mp z; omega)
    · refine w_iconst ta_10 rfl ?_
      refine w_goto ta_10 rfl ?_
      refine w_iret ta_10 rfl (Or.inr ⟨rfl, by omega⟩) ?_
      refine ⟨_, rfl, ?_, rfl⟩
      first
        | (refine Or.inl ⟨rfl, lt.mpr ?_⟩; omega)
        | (refine Or.inr ⟨rfl, Int.not_lt.mp (fun z => ?_)⟩; have := lt.mp z; omega)
set_option maxHeartbeats 4000000 in
set_option maxRecDepth 20000 in
theorem c_exchangeD (D c : Nat) (N : Mem) (hc : arrN 0 c = some 5) (h : Int) (h0 : 1 ≤ h) (h1 : h < 5) : CV D 11 [.inr (.inr c), .inl h] N (fun M' => M' = setC N c (xcF (N c) h (h - 1))) := by
  refine mk_C mt_11 rfl (Nat.le_of_ble_eq_true rfl) (L := [some _, some _, none]) rfl ?_
  refine w_aload_n ta_11 rfl rfl ?_
  refine w_iload_n ta_11 rfl rfl ?_
  refine w_iaload ta_11 rfl hc (by omega) (by omega) (by omega) ?_
  refine w_istn_2_3 ta_11 rfl rfl ?_
  refine w_aload_n ta_11 rfl rfl ?_
  refine w_iload_n ta_11 rfl rfl ?_
  refine w_aload_n ta_11 rfl rfl ?_
  refine w_iload_n ta_11 rfl rfl ?_
  refine w_iconst ta_11 rfl ?_
  refine w_isub ta_11 rfl ?_
  refine w_iaload ta_11 rfl hc (by omega) (by omega) (by omega) ?_
  refine w_iastore ta_11 rfl hc (by omega) (by omega) (by omega) ?_
  refine w_aload_n ta_11 rfl rfl ?_
  refine w_iload_n ta_11 rfl rfl ?_
  refine w_iconst ta_11 rfl ?_
  refine w_isub ta_11 rfl ?_
  refine w_iload_n ta_11 rfl rfl ?_
  refine w_iastore ta_11 rfl hc (by omega) (by omega) (by omega) ?_
  refine w_vret ta_11 rfl ?_
  refine ⟨rfl, ?_⟩
  show wr (wr N c h (N c (h - 1))) c (h - 1) (N c h) = _
  unfold wr
  rw [sc_sc, sc_s]
  rfl
set_option maxHeartbeats 4000000 in
set_option maxRecDepth 20000 in
theorem lp_merge1 (D : Nat) (N : Mem) (ch : Int → Int) (n k : Int) (H part : Int → Int) (hn : n ≤ 16) (k0 : 2 ≤ k) (k1 : k ≤ 5) (hc : ∀ i, 0 ≤ i → i < n → 1 ≤ ch i ∧ ch i ≤ 999) (m : Nat) (dI : DI n k m H part) (hC : CD N ch n k H part) (a b : Int) (a0 : 0 ≤ a) (b0 : 0 ≤ b) (an : a < n) (bn : b < n) (ab : a ≠ b) (pa : part a = 1) (pb : part b = 1) (P : Option AV → Mem → Prop) (hP : ∀ Z, (∀ c, c ≠ 32 + a.toNat → c ≠ 49 + a.toNat → Z c = N c) → (∀ j, 0 ≤ j → j < k → Z (32 + a.toNat) j = sP ch (mp H k a b j) n ∧ Z (49 + a.toNat) j = bP (mp H k a b j) n) → (∀ j, k ≤ j → j < k → Z (32 + a.toNat) j = N (32 + a.toNat) j ∧ Z (49 + a.toNat) j = N (49 + a.toNat) j) → Wp (D + 1) 9 (68, [some (.inr (.inr 30)), some (.inl a), some (.inl b), some (.inl k), none], [], Z) P) : ∀ g : Int, 0 ≤ g → g ≤ k → ∀ Z, (∀ c, c ≠ 32 + a.toNat → c ≠ 49 + a.toNat → Z c = N c) → (∀ j, 0 ≤ j → j < g → Z (32 + a.toNat) j = sP ch (mp H k a b j) n ∧ Z (49 + a.toNat) j = bP (mp H k a b j) n) → (∀ j, g ≤ j → j < k → Z (32 + a.toNat) j = N (32 + a.toNat) j ∧ Z (49 + a.toNat) j = N (49 + a.toNat) j) → Wp (D + 1) 9 (2, [some (.inr (.inr 30)), some (.inl a), some (.inl b), some (.inl g), none], [], Z) P := by
  have a1 : a < 16 := by omega
  have b1 : b < 16 := by omega
  refine loopZ k ?_
  intro g h0 h1 ih Z hF hL hR
  refine w_iload_n ta_9 rfl rfl ?_
  refine w_aload_n ta_9 rfl rfl ?_
  refine w_getIv 6 (v := k) ta_9 rfl rfl rfl (by rw [hF 30 (by omega) (by omega)]; exact hC.2.1) ?_
  refine w_icmp_ge ta_9 rfl ⟨by omega, by omega⟩ ⟨by omega, by omega⟩ (fun h7 => ?_) (fun h7 => ?_)
  · have e : g = k := by omega
    subst e
    exact hP Z hF hL hR
  · refine w_aload_n ta_9 rfl rfl ?_
    refine w_getR ta_9 rfl rfl ?_
    refine w_iload_n ta_9 rfl rfl ?_
    refine w_aaload (d := 32 + a.toNat) ta_9 rfl rfl (by omega) (by simp; omega) (by decide) (rw_h a0 a1).1 ?_
    refine w_iload_n ta_9 rfl rfl ?_
    refine w_dup2 ta_9 rfl rfl rfl ?_
    refine w_ialoadv (v := sP ch (pr H (5 * a + g)) n) ta_9 rfl (rw_h a0 a1).2.2.1 (by omega) (by omega) (by omega) (by rw [(hR g (by omega) (by omega)).1]; exact (hC.2.2.2 a g a0 an pa h0 (by omega)).1) ?_
    refine w_aload_n ta_9 rfl rfl ?_
    refine w_getR ta_9 rfl rfl ?_
    refine w_iload_n ta_9 rfl rfl ?_
    refine w_aaload (d := 32 + b.toNat) ta_9 rfl rfl (by omega) (by simp; omega) (by decide) (rw_h b0 b1).1 ?_
    refine w_aload_n ta_9 rfl rfl ?_
    refine w_getIv 6 (v := k) ta_9 rfl rfl rfl (by rw [hF 30 (by omega) (by omega)]; exact hC.2.1) ?_
    refine w_iconst ta_9 rfl ?_
    refine w_isub ta_9 rfl ?_
    refine w_iload_n ta_9 rfl rfl ?_
    refine w_isub ta_9 rfl ?_
    refine w_ialoadv (v := sP ch (pr H (5 * b + (k - 1 - g))) n) ta_9 rfl (rw_h b0 b1).2.2.1 (by omega) (by omega) (by omega) (by rw [hF _ (by omega) (by omega)]; exact (hC.2.2.2 b (k - 1 - g) b0 bn pb (by omega) (by omega)).1) ?_
    refine w_iadd ta_9 rfl ?_
    refine w_iastore ta_9 rfl (rw_h a0 a1).2.2.1 (by omega) (by omega) (by omega) ?_
    refine w_aload_n ta_9 rfl rfl ?_
    refine w_getR ta_9 rfl rfl ?_
    refine w_iload_n ta_9 rfl rfl ?_
    refine w_aaload (d := 49 + a.toNat) ta_9 rfl rfl (by omega) (by simp; omega) (by decide) (rw_h a0 a1).2.1 ?_
    refine w_iload_n ta_9 rfl rfl ?_
    refine w_dup2 ta_9 rfl rfl rfl ?_
    refine w_ialoadv (v := bP (pr H (5 * a + g)) n) ta_9 rfl (rw_h a0 a1).2.2.2 (by omega) (by omega) (by omega) (by rw [wr_n _ _ _ (by omega), (hR g (by omega) (by omega)).2]; exact (hC.2.2.2 a g a0 an pa h0 (by omega)).2) ?_
    refine w_aload_n ta_9 rfl rfl ?_
    refine w_getR ta_9 rfl rfl ?_
    refine w_iload_n ta_9 rfl rfl ?_
    refine w_aaload (d := 49 + b.toNat) ta_9 rfl rfl (by omega) (by simp; omega) (by decide) (rw_h b0 b1).2.1 ?_
    refine w_aload_n ta_9 rfl rfl ?_
    refine w_getIv 6 (v := k) ta_9 rfl rfl rfl (by rw [wr_n _ _ _ (by omega), hF 30 (by omega) (by omega)]; exact hC.2.1) ?_
    refine w_iconst ta_9 rfl ?_
    refine w_isub ta_9 rfl ?_
    refine w_iload_n ta_9 rfl rfl ?_
    refine w_isub ta_9 rfl ?_
    refine w_ialoadv (v := bP (pr H (5 * b + (k - 1 - g))) n) ta_9 rfl (rw_h b0 b1).2.2.2 (by omega) (by omega) (by omega) (by rw [wr_n _ _ _ (by omega), hF _ (by omega) (by omega)]; exact (hC.2.2.2 b (k - 1 - g) b0 bn pb (by omega) (by omega)).2) ?_
    refine w_ior ta_9 rfl ?_
    refine w_iastore ta_9 rfl (rw_h a0 a1).2.2.2 (by omega) (by omega) (by omega) ?_
    refine w_iinc_3_5 ta_9 rfl rfl ?_
    refine w_goto ta_9 rfl ?_
    rw [bP_or _ _ hn, ← sP_or ch (p := pr H (5 * a + g)) (q := pr H (5 * b + (k - 1 - g))) (fun i i0 i1 => by rw [pr_t, pr_t]; omega)]
    refine ih (by omega) _ (fun c c1 c2 => by rw [wr_n _ _ _ c2, wr_n _ _ _ c1]; exact hF c c1 c2) (fun j j0 j1 => ?_) (fun j j0 j1 => ?_)
    · by_cases e : j = g
      · subst e
        exact ⟨by rw [wr_n _ _ _ (by omega), wr_s, up_s]; rfl, by rw [wr_s, up_s]; rfl⟩
      · exact ⟨by rw [wr_n _ _ _ (by omega), wr_s, up_n _ _ e]; exact (hL j j0 (by omega)).1, by rw [wr_s, up_n _ _ e, wr_n _ _ _ (by omega)]; exact (hL j j0 (by omega)).2⟩
    · exact ⟨by rw [wr_n _ _ _ (by omega), wr_s, up_n _ _ (by omega)]; exact (hR j (by omega) j1).1, by rw [wr_s, up_n _ _ (by omega), wr_n _ _ _ (by omega)]; exact (hR j (by omega) j1).2⟩
set_option maxHeartbeats 4000000 in
set_option maxRecDepth 20000 in
theorem lp_merge3 (D : Nat) (N : Mem) (ch : Int → Int) (n k : Int) (H part : Int → Int) (hn : n ≤ 16) (k0 : 2 ≤ k) (k1 : k ≤ 5) (hc : ∀ i, 0 ≤ i → i < n → 1 ≤ ch i ∧ ch i ≤ 999) (m : Nat) (dI : DI n k m H part) (hC : CD N ch n k H part) (a b : Int) (a0 : 0 ≤ a) (b0 : 0 ≤ b) (an : a < n) (bn : b < n) (ab : a ≠ b) (pa : part a = 1) (pb : part b = 1) (P : Option AV → Mem → Prop) (g : Int) (g0 : 1 ≤ g) (gk : g < k) (hP : ∀ (x : Int) Z s, (∀ c, c ≠ 32 + a.toNat → c ≠ 49 + a.toNat → c ≠ 65 → Z c = N c) → (∀ p, 0 ≤ p → p < n → Z 65 p = 1 - upI part b 0 p) → PermF s k → (∀ i, 0 ≤ i → i < k → 0 ≤ s i ∧ s i < k) → (∀ j, 0 ≤ j → j < k → Z (32 + a.toNat) j = sP ch (mp H k a b (s j)) n ∧ Z (49 + a.toNat) j = bP (mp H k a b (s j)) n) → Srt (fun i => mK ch n k H a b (s i)) (g + 1) → Wp (D + 1) 9 (135, [some (.inr (.inr 30)), some (.inl a), some (.inl b), some (.inl g), some (.inl x)], [], Z) P) : ∀ (h : Nat), (h : Int) ≤ g → ∀ Z s, (∀ c, c ≠ 32 + a.toNat → c ≠ 49 + a.toNat → c ≠ 65 → Z c = N c) → (∀ p, 0 ≤ p → p < n → Z 65 p = 1 - upI part b 0 p) → PermF s k → (∀ i, 0 ≤ i → i < k → 0 ≤ s i ∧ s i < k) → (∀ j, 0 ≤ j → j < k → Z (32 + a.toNat) j = sP ch (mp H k a b (s j)) n ∧ Z (49 + a.toNat) j = bP (mp H k a b (s j)) n) → InI (fun i => mK ch n k H a b (s i)) g h → Wp (D + 1) 9 (88, [some (.inr (.inr 30)), some (.inl a), some (.inl b), some (.inl g), some (.inl (h : Int))], [], Z) P := by
  have a1 : a < 16 := by omega
  have b1 : b < 16 := by omega
  intro h
  induction h with
  | zero =>
    intro hg Z s hF hG hp hr hV hi
    refine w_iload ta_9 rfl rfl ?_
    refine w_if_le ta_9 rfl ⟨by omega, by omega⟩ (fun h90 => ?_) (fun h90 => ?_)
    · exact hP _ Z s hF hG hp hr hV (hi.en (Or.inl (by omega)) (by omega) hg)
    · exfalso; omega
  | succ h ih =>
    intro hg Z s hF hG hp hr hV hi
    refine w_iload ta_9 rfl rfl ?_
    refine w_if_le ta_9 rfl ⟨by omega, by omega⟩ (fun h90 => ?_) (fun h90 => ?_)
    · exfalso; omega
    · refine w_aload_n ta_9 rfl rfl ?_
      refine w_iload_n ta_9 rfl rfl ?_
      refine w_iload ta_9 rfl rfl ?_
      refine w_iload ta_9 rfl rfl ?_
      refine w_iconst ta_9 rfl ?_
      refine w_isub ta_9 rfl ?_
      refine w_cI [_, _, _, _] _ ta_9 rfl rfl rfl mt_10 rfl rfl rfl rfl (Nat.le_of_ble_eq_true rfl) (fun _ => rfl) rfl (c_isAheadD _ Z ch n a (((h + 1 : Nat) : Int)) (((h + 1 : Nat) : Int) - 1) (mp H k a b (s ((h + 1 : Nat) : Int))) (mp H k a b (s (((h + 1 : Nat) : Int) - 1))) hn hc a0 a1 (by omega) (by omega) (by omega) (by omega) (hV _ (by omega) (by omega)).1 (hV _ (by omega) (by omega)).2 (hV _ (by omega) (by omega)).1 (hV _ (by omega) (by omega)).2) ?_
      rintro v Z2 ⟨hv, rfl⟩
      refine w_if_eq ta_9 rfl ⟨by omega, by omega⟩ (fun h104 => ?_) (fun h104 => ?_)
      · have hle : mK ch n k H a b (s ((h + 1 : Nat) : Int)) ≤ mK ch n k H a b (s (((h + 1 : Nat) : Int) - 1)) := by
          rcases hv with q | q
          · omega
          · exact q.2
        exact hP _ Z2 s hF hG hp hr hV (hi.en (Or.inr hle) (by omega) hg)
      · refine w_aload_n ta_9 rfl rfl ?_
        refine w_getR ta_9 rfl rfl ?_
        refine w_iload_n ta_9 rfl rfl ?_
        refine w_aaload (d := 32 + a.toNat) ta_9 rfl rfl (by omega) (by simp; omega) (by decide) (rw_h a0 a1).1 ?_
        refine w_iload ta_9 rfl rfl ?_
        refine w_cV [_, _] _ ta_9 rfl rfl rfl mt_11 rfl rfl rfl rfl (Nat.le_of_ble_eq_true rfl) (fun q => by cases q) rfl (c_exchangeD _ _ _ (rw_h a0 a1).2.2.1 ((h + 1 : Nat) : Int) (by omega) (by omega)) ?_
        rintro Z3 hZ3
        refine w_aload_n ta_9 rfl rfl ?_
        refine w_getR ta_9 rfl rfl ?_
        refine w_iload_n ta_9 rfl rfl ?_
        refine w_aaload (d := 49 + a.toNat) ta_9 rfl rfl (by omega) (by simp; omega) (by decide) (rw_h a0 a1).2.1 ?_
        refine w_iload ta_9 rfl rfl ?_
        refine w_cV [_, _] _ ta_9 rfl rfl rfl mt_11 rfl rfl rfl rfl (Nat.le_of_ble_eq_true rfl) (fun q => by cases q) rfl (c_exchangeD _ _ _ (rw_h a0 a1).2.2.2 ((h + 1 : Nat) : Int) (by omega) (by omega)) ?_
        rintro Z4 hZ4
        refine w_iinc_4_5 ta_9 rfl rfl ?_
        refine w_goto ta_9 rfl ?_
        have hg2 : mK ch n k H a b (s (((h + 1 : Nat) : Int) - 1)) < mK ch n k H a b (s ((h + 1 : Nat) : Int)) := by
          rcases hv with q | q
          · exact q.2
          · omega
        have e4 : ((h + 1 : Nat) : Int) + -1 = (h : Int) := by omega
        rw [e4]
        have e5 : ((h + 1 : Nat) : Int) - 1 = (h : Int) := by omega
        rw [e5] at hZ3 hZ4 hg2
        refine ih (by omega) Z4 (xcF s ((h + 1 : Nat) : Int) h) (fun c c1 c2 c3 => by rw [hZ4, sc_n _ _ c2, hZ3, sc_n _ _ c1]; exact hF c c1 c2 c3) (fun p p0 p1 => by rw [hZ4, sc_n _ _ (by omega), hZ3, sc_n _ _ (by omega)]; exact hG p p0 p1) (hp.xc (by omega) (by omega) (by omega) (by omega)) (fun i i0 i1 => ?_) (fun j j0 j1 => ?_) ?_
        · have q1 := hr i i0 i1
          have q2 := hr h (by omega) (by omega)
          have q3 := hr ((h + 1 : Nat) : Int) (by omega) (by omega)
          unfold xcF upI
          split
          · exact q3
          · split
            · exact q2
            · exact q1
        · have q1 := hV j j0 j1
          have q2 := hV h (by omega) (by omega)
          have q3 := hV ((h + 1 : Nat) : Int) (by omega) (by omega)
          rw [hZ4, sc_n _ _ (by omega), sc_s, hZ3, sc_s, sc_n _ _ (by omega)]
          unfold xcF upI
          split
          · exact q3
          · split
            · exact q2
            · exact q1
        · have q := InI.sw hi (by omega) (by omega) (by rw [e5]; exact hg2)
          rw [e5] at q
          refine (congrArg (fun q => InI q g h) ?_).mp q
          funext i
          unfold xcF upI
          simp only
          split
          · rfl
          · split <;> rfl
set_option maxHeartbeats 4000000 in
set_option maxRecDepth 20000 in
theorem lp_merge2 (D : Nat) (N : Mem) (ch : Int → Int) (n k : Int) (H part : Int → Int) (hn : n ≤ 16) (k0 : 2 ≤ k) (k1 : k ≤ 5) (hc : ∀ i, 0 ≤ i → i < n → 1 ≤ ch i ∧ ch i ≤ 999) (m : Nat) (dI : DI n k m H part) (hC : CD N ch n k H part) (a b : Int) (a0 : 0 ≤ a) (b0 : 0 ≤ b) (an : a < n) (bn : b < n) (ab : a ≠ b) (pa : part a = 1) (pb : part b = 1) (P : Option AV → Mem → Prop) (hP : ∀ Z s, (∀ c, c ≠ 32 + a.toNat → c ≠ 49 + a.toNat → c ≠ 65 → Z c = N c) → (∀ p, 0 ≤ p → p < n → Z 65 p = 1 - upI part b 0 p) → PermF s k → (∀ i, 0 ≤ i → i < k → 0 ≤ s i ∧ s i < k) → (∀ j, 0 ≤ j → j < k → Z (32 + a.toNat) j = sP ch (mp H k a b (s j)) n ∧ Z (49 + a.toNat) j = bP (mp H k a b (s j)) n) → Srt (fun i => mK ch n k H a b (s i)) k → P none Z) : ∀ g : Int, 1 ≤ g → g ≤ k → ∀ (x : Option AV) Z s, (∀ c, c ≠ 32 + a.toNat → c ≠ 49 + a.toNat → c ≠ 65 → Z c = N c) → (∀ p, 0 ≤ p → p < n → Z 65 p = 1 - upI part b 0 p) → PermF s k → (∀ i, 0 ≤ i → i < k → 0 ≤ s i ∧ s i < k) → (∀ j, 0 ≤ j → j < k → Z (32 + a.toNat) j = sP ch (mp H k a b (s j)) n ∧ Z (49 + a.toNat) j = bP (mp H k a b (s j)) n) → Srt (fun i => mK ch n k H a b (s i)) g → Wp (D + 1) 9 (77, [some (.inr (.inr 30)), some (.inl a), some (.inl b), some (.inl g), x], [], Z) P := by
  refine loopO 1 k ?_
  intro g h0 h1 ih x Z s hF hG hp hr hV hs
  refine w_iload_n ta_9 rfl rfl ?_
  refine w_aload_n ta_9 rfl rfl ?_
  refine w_getIv 6 (v := k) ta_9 rfl rfl rfl (by rw [hF 30 (by omega) (by omega) (by omega)]; exact hC.2.1) ?_
  refine w_icmp_ge ta_9 rfl ⟨by omega, by omega⟩ ⟨by omega, by omega⟩ (fun h82 => ?_) (fun h82 => ?_)
  · refine w_vret ta_9 rfl ?_
    have e : g = k := by omega
    subst e
    exact hP Z s hF hG hp hr hV hs
  · refine w_iload_n ta_9 rfl rfl ?_
    refine w_ist_4_5 ta_9 rfl rfl ?_
    have q := fun hP2 => lp_merge3 D N ch n k H part hn k0 k1 hc m dI hC a b a0 b0 an bn ab pa pb P g h0 h82 hP2 g.toNat (by omega) Z s hF hG hp hr hV (by rw [show ((g.toNat : Nat) : Int) = g by omega]; exact hs.inI)
    rw [show ((g.toNat : Nat) : Int) = g by omega] at q
    refine q ?_
    intro x Z s hF hG hp hr hV hs
    refine w_iinc_3_5 ta_9 rfl rfl ?_
    refine w_goto ta_9 rfl ?_
    exact ih h82 _ Z s hF hG hp hr hV hs
set_option maxHeartbeats 4000000 in
set_option maxRecDepth 20000 in
theorem c_merge (D : Nat) (N : Mem) (ch : Int → Int) (n k : Int) (H part : Int → Int) (hn : n ≤ 16) (k0 : 2 ≤ k) (k1 : k ≤ 5) (hc : ∀ i, 0 ≤ i → i < n → 1 ≤ ch i ∧ ch i ≤ 999) (m : Nat) (dI : DI n k m H part) (hC : CD N ch n k H part) (a b : Int) (a0 : 0 ≤ a) (b0 : 0 ≤ b) (an : a < n) (bn : b < n) (ab : a ≠ b) (pa : part a = 1) (pb : part b = 1) : CV (D + 1) 9 [.inr (.inr 30), .inl a, .inl b] N (fun M' => (∀ c, c ≠ 32 + a.toNat → c ≠ 49 + a.toNat → c ≠ 65 → M' c = N c) ∧ CD M' ch n k (jH ch n k H a b) (upI part b 0)) := by
  refine mk_C mt_9 rfl (Nat.le_of_ble_eq_true rfl) (L := [some _, some _, some _, none, none]) rfl ?_
  refine w_iconst ta_9 rfl ?_
  refine w_istn_3_5 ta_9 rfl rfl ?_
  refine lp_merge1 D N ch n k H part hn k0 k1 hc m dI hC a b a0 b0 an bn ab pa pb _ ?_ 0 (by omega) (by omega) N (fun _ _ _ => rfl) (fun j j0 j1 => by omega) (fun _ _ _ => ⟨rfl, rfl⟩)
  intro Z hF hL hR
  refine w_aload_n ta_9 rfl rfl ?_
  refine w_getR ta_9 rfl rfl ?_
  refine w_iload_n ta_9 rfl rfl ?_
  refine w_iconst ta_9 rfl ?_
  refine w_bastore ta_9 rfl rfl (by omega) (by omega) (by omega) (by omega) ?_
  refine w_iconst ta_9 rfl ?_
  refine w_istn_3_5 ta_9 rfl rfl ?_
  refine lp_merge2 D N ch n k H part hn k0 k1 hc m dI hC a b a0 b0 an bn ab pa pb _ ?_ 1 (by omega) (by omega) none _ (fun i => i) (fun c c1 c2 c3 => by rw [wr_n _ _ _ c3]; exact hF c c1 c2) (fun p p0 p1 => ?_) (fun f => rfl) (fun i i0 i1 => ⟨i0, i1⟩) (fun j j0 j1 => ?_) (fun i j i0 ij j1 => by omega)
  · intro Z s hF hG hp hr hV hs
    refine ⟨rfl, hF, by rw [hF 30 (by omega) (by omega) (by omega)]; exact hC.1, by rw [hF 30 (by omega) (by omega) (by omega)]; exact hC.2.1, hG, fun p g p0 p1 hpp g0 g1 => ?_⟩
    by_cases e : p = a
    · subst e
      have q := srt_row dI hn hc k0 k1 ab hp hr hs g g0 g1
      have v := hV g g0 g1
      exact ⟨v.1.trans q.2, v.2.trans q.1⟩
    · have e2 : p ≠ b := fun z => by rw [z, up_s] at hpp; omega
      rw [up_n _ _ e2] at hpp
      have v := hC.2.2.2 p g p0 p1 hpp g0 g1
      rw [hF _ (by omega) (by omega) (by omega), hF _ (by omega) (by omega) (by omega), v.1, v.2]
      exact ⟨sP_cg (fun i i0 i1 => ⟨(jH_oth dI k0 k1 ab i0 i1 e e2 g0 g1).symm, rfl⟩), bP_cg (fun i i0 i1 => (jH_oth dI k0 k1 ab i0 i1 e e2 g0 g1).symm)⟩
  · rw [wr_s]
    unfold upI
    split
    · rfl
    · rw [hF 65 (by omega) (by omega)]; exact hC.2.2.1 p p0 p1
  · rw [wr_n _ _ _ (by omega), wr_n _ _ _ (by omega)]; exact hL j j0 j1
