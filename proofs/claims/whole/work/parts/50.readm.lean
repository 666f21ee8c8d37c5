/-! the reference reads a text -/
def DfM (N : Mem) (dr ch : Int → Int) : Prop := (∀ j, 0 ≤ j → j < 5 → N 85 j = dr j) ∧ (∀ i, 0 ≤ i → i < dr 0 → N 85 (5 + i) = ch i) ∧ DrI dr ch
def TdM (N : Mem) (md : Int → Int) : Prop := (∀ j, 0 ≤ j → j < 5 → N 87 j = md j) ∧ (∀ j, md j = 0 ∨ md j = 1) ∧ md 0 = 0
def FrM (N M' : Mem) : Prop := (∀ c, c ≠ 80 → c ≠ 85 → c ≠ 87 → M' c = N c) ∧ ∀ j, j < 8 ∨ 13 < j → M' 80 j = N 80 j
theorem FrR.m {N Z : Mem} (h : FrR N Z) : FrM N Z := ⟨fun c h1 _ _ => h.1 c h1, h.2⟩
theorem FrM.tr {N Z Z' : Mem} (h : FrM N Z) (h' : FrM Z Z') : FrM N Z' := ⟨fun c h1 h2 h3 => (h'.1 c h1 h2 h3).trans (h.1 c h1 h2 h3), fun j hj => (h'.2 j hj).trans (h.2 j hj)⟩
theorem FrM.rf (N : Mem) : FrM N N := ⟨fun _ _ _ _ => rfl, fun _ _ => rfl⟩
theorem DfM.of {N Z : Mem} {dr ch : Int → Int} (h : DfM N dr ch) (e : Z 85 = N 85) : DfM Z dr ch := by
  unfold DfM
  rw [e]
  exact h
theorem TdM.of {N Z : Mem} {md : Int → Int} (h : TdM N md) (e : Z 87 = N 87) : TdM Z md := by
  unfold TdM
  rw [e]
  exact h
theorem TM.of {N Z : Mem} {p : Int} (h : TM N p) (e : Z 80 = N 80) (e2 : Z 86 = N 86) : TM Z p := by
  unfold TM
  rw [e, e2]
  exact h
theorem LK.of {N Z : Mem} {p : Int} (h : LK N p) (e : Z 80 = N 80) (e2 : Z 86 = N 86) : LK Z p := by
  unfold LK TM
  rw [e, e2]
  exact h
theorem DfM.st {N Z : Mem} {dr ch : Int → Int} {w v : Int} (h : DfM N dr ch) (w1 : 1 ≤ w) (w4 : w ≤ 4) (b : loZ w ≤ v ∧ v ≤ hiW w) (e : Z 85 = upI (N 85) w v) : DfM Z (upI dr w v) ch := by
  obtain ⟨h1, h2, hD⟩ := h
  have hD0 := hD
  obtain ⟨d0, d1, d2, d3, d4, d5, d6, d7, d8, d9, hc⟩ := hD
  have z0 : upI dr w v 0 = dr 0 := up_n _ _ (by omega)
  refine ⟨fun j j0 j1 => ?_, fun i i0 i1 => ?_, ?_⟩
  · rw [e]
    unfold upI
    by_cases e : j = w
    · rw [if_pos e, if_pos e]
    · rw [if_neg e, if_neg e]; exact h1 j j0 j1
  · rw [e, up_n _ _ (by omega)]; exact h2 i i0 (by rw [← z0]; exact i1)
  · have q : DfC (fun c => if c = 8 then fun j => dr (j - 4) else ch) dr ch := ⟨fun j _ _ => by show dr (4 + j - 4) = _; rw [show 4 + j - 4 = j by omega], fun i _ _ => ⟨rfl, rfl⟩, hD0⟩
    exact (q.st (Z := setC (fun c => if c = 8 then fun j => dr (j - 4) else ch) 8 (upI (fun j => dr (j - 4)) (4 + w) v)) w1 w4 b (by rw [sc_s]; rfl) (by rw [sc_n _ _ (by decide)]) (by rw [sc_n _ _ (by decide)])).2.2
theorem DfM.ap {N Z : Mem} {dr ch : Int → Int} {v : Int} (h : DfM N dr ch) (n1 : dr 0 < 16) (b : 1 ≤ v ∧ v ≤ 999) (e : Z 85 = upI (upI (N 85) (5 + dr 0) v) 0 (dr 0 + 1)) : DfM Z (upI dr 0 (dr 0 + 1)) (upI ch (dr 0) v) := by
  obtain ⟨h1, h2, hD⟩ := h
  have d0 := hD.1
  refine ⟨fun j j0 j1 => ?_, fun i i0 i1 => ?_, hD.ap n1 b⟩
  · rw [e]
    by_cases z : j = 0
    · rw [z, up_s, up_s]
    · rw [up_n _ _ z, up_n _ _ z, up_n _ _ (by omega)]; exact h1 j j0 j1
  · rw [up_s] at i1
    rw [e, up_n _ _ (by omega)]
    by_cases z : i = dr 0
    · rw [z, up_s, up_s]
    · rw [up_n _ _ z, up_n _ _ (by omega)]; exact h2 i i0 (by omega)
/-- a cell has been read -/
def RC (N M' : Mem) (p : Int) (dr ch : Int → Int) : Prop := FrM N M' ∧ M' 87 = N 87 ∧ ((tK (N 86) (N 80 7) p ≠ 1 ∧ FlM M' 2 (tS (N 86) (N 80 7) p)) ∨ (tK (N 86) (N 80 7) p = 1 ∧ dr 0 = 16 ∧ FlM M' 5 (tS (N 86) (N 80 7) p)) ∨ (tK (N 86) (N 80 7) p = 1 ∧ dr 0 < 16 ∧ ¬ (1 ≤ tV (N 86) (N 80 7) p ∧ tV (N 86) (N 80 7) p ≤ 999) ∧ FlM M' 3 (tS (N 86) (N 80 7) p)) ∨ (tK (N 86) (N 80 7) p = 1 ∧ dr 0 < 16 ∧ (1 ≤ tV (N 86) (N 80 7) p ∧ tV (N 86) (N 80 7) p ≤ 999) ∧ DfM M' (upI dr 0 (dr 0 + 1)) (upI ch (dr 0) (tV (N 86) (N 80 7) p)) ∧ LK M' (tN (N 86) (N 80 7) p)))
theorem tW_b (t : Int → Int) (L p : Int) : tW t L p = -4 ∨ (0 ≤ tW t L p ∧ tW t L p ≤ 4) := by
  unfold tW
  split
  · exact lnZ_b _ _ _
  · exact Or.inl rfl
set_option maxHeartbeats 4000000 in
set_option maxRecDepth 20000 in
theorem lp_rc36a (D : Nat) (N : Mem) (hT : TpM N) (p : Int) (p0 : 0 ≤ p) (p1 : p ≤ N 80 7) (hM : TM N p) (dr ch : Int → Int) (hD : DfM N dr ch) (hn : tK (N 86) (N 80 7) p = 1 → dr 0 < 16) : Wp (D + 3) 119 (36, [some (.inr (.inr 80)), none], [], N) (fun r M' => r = none ∧ RC N M' p dr ch) := by
  skip
  refine w_aload_n ta_119 rfl rfl ?_
  refine w_iconst ta_119 rfl ?_
  refine w_sipush ta_119 rfl ?_
  refine w_cI [_, _, _] _ ta_119 rfl rfl rfl mt_118 rfl rfl rfl rfl (Nat.le_of_ble_eq_true rfl) (fun _ => rfl) rfl (cm_readNumber _ N hT p p0 p1 hM 1 999 (by decide) (by decide)) ?_
  rintro v Z ⟨fr, hR⟩
  have e85 : Z 85 = N 85 := fr.1 85 (by decide)
  have d0 := hD.2.2.1
  have d1 := hD.2.2.2.1
  have z0 : Z 85 0 = dr 0 := by rw [e85]; exact hD.1 0 (by omega) (by omega)
  have vb : 0 ≤ v ∧ v ≤ 999 := by rcases hR with ⟨-, q, -⟩ | ⟨-, -, q, -⟩ | ⟨-, b, q, -⟩ <;> omega
  refine w_istn_1_2 ta_119 rfl rfl ?_
  refine w_iload_n ta_119 rfl rfl ?_
  refine w_if_le ta_119 rfl ⟨by omega, by omega⟩ (fun h46 => ?_) (fun h46 => ?_)
  · refine w_vret ta_119 rfl ?_
    first
      | (refine ⟨rfl, fr.m, fr.1 87 (by decide), ?_⟩
         rcases hR with ⟨k1, -, q⟩ | ⟨k1, nb3, -, q⟩ | ⟨k1, bd, hv, hL⟩
         · exact Or.inl ⟨k1, q⟩
         · exact Or.inr (Or.inr (Or.inl ⟨k1, hn k1, nb3, q⟩))
         · exfalso; omega)
      | (refine ⟨rfl, ⟨fun c h1 h2 h3 => by rw [wr_n _ _ _ h2, wr_n _ _ _ h2]; exact fr.1 c h1, fun j hj => by rw [wr_n _ _ _ (by decide), wr_n _ _ _ (by decide)]; exact fr.2 j hj⟩, by rw [wr_n _ _ _ (by decide), wr_n _ _ _ (by decide)]; exact fr.1 87 (by decide), Or.inr (Or.inr (Or.inr ⟨k1, hn, bd, hD.ap hn bd ?_, hL.of (by rw [wr_n _ _ _ (by decide), wr_n _ _ _ (by decide)]) (by rw [wr_n _ _ _ (by decide), wr_n _ _ _ (by decide)])⟩))⟩
         rw [wr_s, wr_s, e85])
  · obtain ⟨k1, bd, hv, hL⟩ := (hR.resolve_left (fun q => by have := q.2.1; omega)).resolve_left (fun q => by have := q.2.2.1; omega)
    have hn := hn k1
    obtain rfl := hv
    refine w_aload_n ta_119 rfl rfl ?_
    refine w_getR ta_119 rfl rfl ?_
    refine w_iconst ta_119 rfl ?_
    refine w_aload_n ta_119 rfl rfl ?_
    refine w_getR ta_119 rfl rfl ?_
    refine w_iconst ta_119 rfl ?_
    refine w_ialoadv (v := dr 0) ta_119 rfl rfl (by decide) (by decide) (by omega) z0 ?_
    refine w_iadd ta_119 rfl ?_
    refine w_iload_n ta_119 rfl rfl ?_
    refine w_iastore ta_119 rfl rfl (by omega) (by omega) (by omega) ?_
    refine w_aload_n ta_119 rfl rfl ?_
    refine w_getR ta_119 rfl rfl ?_
    refine w_iconst ta_119 rfl ?_
    refine w_dup2 ta_119 rfl rfl rfl ?_
    refine w_ialoadv (v := dr 0) ta_119 rfl rfl (by decide) (by decide) (by omega) (by rw [wr_s, up_n _ _ (by omega)]; exact z0) ?_
    refine w_iconst ta_119 rfl ?_
    refine w_iadd ta_119 rfl ?_
    refine w_iastore ta_119 rfl rfl (by decide) (by decide) (by omega) ?_
    refine w_vret ta_119 rfl ?_
    first
      | (refine ⟨rfl, fr.m, fr.1 87 (by decide), ?_⟩
         rcases hR with ⟨k1, -, q⟩ | ⟨k1, nb3, -, q⟩ | ⟨k1, bd, hv, hL⟩
         · exact Or.inl ⟨k1, q⟩
         · exact Or.inr (Or.inr (Or.inl ⟨k1, hn k1, nb3, q⟩))
         · exfalso; omega)
      | (refine ⟨rfl, ⟨fun c h1 h2 h3 => by rw [wr_n _ _ _ h2, wr_n _ _ _ h2]; exact fr.1 c h1, fun j hj => by rw [wr_n _ _ _ (by decide), wr_n _ _ _ (by decide)]; exact fr.2 j hj⟩, by rw [wr_n _ _ _ (by decide), wr_n _ _ _ (by decide)]; exact fr.1 87 (by decide), Or.inr (Or.inr (Or.inr ⟨k1, hn, bd, hD.ap hn bd ?_, hL.of (by rw [wr_n _ _ _ (by decide), wr_n _ _ _ (by decide)]) (by rw [wr_n _ _ _ (by decide), wr_n _ _ _ (by decide)])⟩))⟩
         rw [wr_s, wr_s, e85])
set_option maxHeartbeats 4000000 in
set_option maxRecDepth 20000 in
theorem lp_rc36b (D : Nat) (Z : Mem) (hT : TpM Z) (f0 : 1 ≤ Z 80 12) (f1 : Z 80 12 ≤ 5) : Wp (D + 3) 119 (36, [some (.inr (.inr 80)), none], [], Z) (fun r M' => r = none ∧ M' = Z) := by
  skip
  refine w_aload_n ta_119 rfl rfl ?_
  refine w_iconst ta_119 rfl ?_
  refine w_sipush ta_119 rfl ?_
  refine w_cI [_, _, _] _ ta_119 rfl rfl rfl mt_118 rfl rfl rfl rfl (Nat.le_of_ble_eq_true rfl) (fun _ => rfl) rfl (cm_readNumber1 _ Z hT f0 f1 1 999) ?_
  rintro v Z2 ⟨hv, hz⟩
  refine w_istn_1_2 ta_119 rfl rfl ?_
  refine w_iload_n ta_119 rfl rfl ?_
  refine w_if_le ta_119 rfl ⟨by omega, by omega⟩ (fun h46 => ?_) (fun h46 => ?_)
  · refine w_vret ta_119 rfl ?_
    exact ⟨rfl, hz⟩
  · exfalso; omega
set_option maxHeartbeats 4000000 in
set_option maxRecDepth 20000 in
theorem cm_readCell (D : Nat) (N : Mem) (hT : TpM N) (p : Int) (p0 : 0 ≤ p) (p1 : p ≤ N 80 7) (hM : TM N p) (dr ch : Int → Int) (hD : DfM N dr ch) : CV (D + 3) 119 [.inr (.inr 80)] N (fun M' => RC N M' p dr ch) := by
  refine mk_C mt_119 rfl (Nat.le_of_ble_eq_true rfl) (L := [some _, none]) rfl ?_
  obtain ⟨k4, hf, h9, h10, h8, h11⟩ := id hM
  have kb := tK_b (N 86) (N 80 7) p
  have sb := srt_b kb.1 kb.2
  obtain ⟨l0, l1, hb⟩ := id hT
  have nb := tN_b (t := N 86) (L := N 80 7) p1
  have d0 := hD.2.2.1
  have d1 := hD.2.2.2.1
  refine w_aload_n ta_119 rfl rfl ?_
  refine w_getIv 12 (v := (0 : Int)) ta_119 rfl rfl rfl hf ?_
  refine w_if_ne ta_119 rfl ⟨by omega, by omega⟩ (fun h4 => ?_) (fun h4 => ?_)
  · exfalso; omega
  · refine w_aload_n ta_119 rfl rfl ?_
    refine w_getIv 10 (v := srt (tK (N 86) (N 80 7) p)) ta_119 rfl rfl rfl h10 ?_
    refine w_iconst ta_119 rfl ?_
    refine w_icmp_ne ta_119 rfl ⟨by omega, by omega⟩ ⟨by omega, by omega⟩ (fun h12 => ?_) (fun h12 => ?_)
    · first
        | exact lp_rc36a D N hT p p0 p1 hM dr ch hD (fun q => by omega)
        | (rcases hz with ⟨n16, e⟩ | ⟨n16, rfl⟩
           · have fr : FrR N Z := by rw [e]; exact FrR.fail _ _ _
             have zf : Z 80 12 = 5 := by rw [e, wr_s, up_n _ _ (by decide), wr_s, up_s]
             refine (lp_rc36b D Z (hT.of (fr.2 7 (by omega)) (fr.1 86 (by decide))) (by omega) (by omega)).imp ?_
             rintro r M' ⟨hr, hm⟩
             refine ⟨hr, by rw [hm]; exact fr.m, by rw [hm]; exact fr.1 87 (by decide), Or.inr (Or.inl ⟨by omega, n16, ?_⟩)⟩
             rw [hm, e, h9]
             exact FlM.mk _ _ _
           · exact lp_rc36a D N hT p p0 p1 hM dr ch hD (fun _ => n16))
    · refine w_aload_n ta_119 rfl rfl ?_
      refine w_aload_n ta_119 rfl rfl ?_
      refine w_getR ta_119 rfl rfl ?_
      refine w_iconst ta_119 rfl ?_
      refine w_ialoadv (v := dr 0) ta_119 rfl rfl (by decide) (by decide) (by omega) (hD.1 0 (by omega) (by omega)) ?_
      refine w_bipush ta_119 rfl ?_
      refine w_icmp_ge ta_119 rfl ⟨by omega, by omega⟩ ⟨by omega, by omega⟩ (fun h24 => ?_) (fun h24 => ?_)
      · refine w_iconst ta_119 rfl ?_
        refine w_iconst ta_119 rfl ?_
        refine w_cV [_, _, _] _ ta_119 rfl rfl rfl mt_111 rfl rfl rfl rfl (Nat.le_of_ble_eq_true rfl) (fun _ => rfl) rfl (cm_requires _ N _ 5 (by decide) (by omega) (by omega)) ?_
        rintro Z hZ
        have hz : (dr 0 = 16 ∧ Z = wr (wr N 80 12 5) 80 13 (N 80 9)) ∨ (dr 0 < 16 ∧ N = Z) := hZ.elim (fun q => Or.inl ⟨by omega, q.2⟩) (fun q => Or.inr ⟨by omega, q.2.symm⟩)
        first
          | exact lp_rc36a D N hT p p0 p1 hM dr ch hD (fun q => by omega)
          | (rcases hz with ⟨n16, e⟩ | ⟨n16, rfl⟩
             · have fr : FrR N Z := by rw [e]; exact FrR.fail _ _ _
               have zf : Z 80 12 = 5 := by rw [e, wr_s, up_n _ _ (by decide), wr_s, up_s]
               refine (lp_rc36b D Z (hT.of (fr.2 7 (by omega)) (fr.1 86 (by decide))) (by omega) (by omega)).imp ?_
               rintro r M' ⟨hr, hm⟩
               refine ⟨hr, by rw [hm]; exact fr.m, by rw [hm]; exact fr.1 87 (by decide), Or.inr (Or.inl ⟨by omega, n16, ?_⟩)⟩
               rw [hm, e, h9]
               exact FlM.mk _ _ _
             · exact lp_rc36a D N hT p p0 p1 hM dr ch hD (fun _ => n16))
      · refine w_iconst ta_119 rfl ?_
        refine w_goto ta_119 rfl ?_
        refine w_iconst ta_119 rfl ?_
        refine w_cV [_, _, _] _ ta_119 rfl rfl rfl mt_111 rfl rfl rfl rfl (Nat.le_of_ble_eq_true rfl) (fun _ => rfl) rfl (cm_requires _ N _ 5 (by decide) (by omega) (by omega)) ?_
        rintro Z hZ
        have hz : (dr 0 = 16 ∧ Z = wr (wr N 80 12 5) 80 13 (N 80 9)) ∨ (dr 0 < 16 ∧ N = Z) := hZ.elim (fun q => Or.inl ⟨by omega, q.2⟩) (fun q => Or.inr ⟨by omega, q.2.symm⟩)
        first
          | exact lp_rc36a D N hT p p0 p1 hM dr ch hD (fun q => by omega)
          | (rcases hz with ⟨n16, e⟩ | ⟨n16, rfl⟩
             · have fr : FrR N Z := by rw [e]; exact FrR.fail _ _ _
               have zf : Z 80 12 = 5 := by rw [e, wr_s, up_n _ _ (by decide), wr_s, up_s]
               refine (lp_rc36b D Z (hT.of (fr.2 7 (by omega)) (fr.1 86 (by decide))) (by omega) (by omega)).imp ?_
               rintro r M' ⟨hr, hm⟩
               refine ⟨hr, by rw [hm]; exact fr.m, by rw [hm]; exact fr.1 87 (by decide), Or.inr (Or.inl ⟨by omega, n16, ?_⟩)⟩
               rw [hm, e, h9]
               exact FlM.mk _ _ _
             · exact lp_rc36a D N hT p p0 p1 hM dr ch hD (fun _ => n16))
set_option maxHeartbeats 4000000 in
set_option maxRecDepth 20000 in
theorem lp_rl113a (D : Nat) (X : Mem) (hT : TpM X) (q : Int) (q0 : 0 ≤ q) (q1 : q ≤ X 80 7) (hM : TM X q) (w : Int) : Wp (D + 4) 120 (113, [some (.inr (.inr 80)), some (.inl w)], [], X) (fun r M' => r = none ∧ FrR X M' ∧ ((tK (X 86) (X 80 7) q ≠ 2 ∧ FlM M' 2 (tS (X 86) (X 80 7) q)) ∨ (tK (X 86) (X 80 7) q = 2 ∧ LK M' (tN (X 86) (X 80 7) q)))) := by
  obtain ⟨k4, hf, h9, h10, h8, h11⟩ := id hM
  have kb := tK_b (X 86) (X 80 7) q
  have sb := srt_b kb.1 kb.2
  obtain ⟨l0, l1, hb⟩ := id hT
  have nb := tN_b (t := X 86) (L := X 80 7) q1
  refine w_aload_n ta_120 rfl rfl ?_
  refine w_getIv 12 (v := (0 : Int)) ta_120 rfl rfl rfl hf ?_
  refine w_if_ne ta_120 rfl ⟨by omega, by omega⟩ (fun h117 => ?_) (fun h117 => ?_)
  · exfalso; omega
  · refine w_aload_n ta_120 rfl rfl ?_
    refine w_aload_n ta_120 rfl rfl ?_
    refine w_getIv 10 (v := srt (tK (X 86) (X 80 7) q)) ta_120 rfl rfl rfl h10 ?_
    refine w_iconst ta_120 rfl ?_
    refine w_icmp_ne ta_120 rfl ⟨by omega, by omega⟩ ⟨by omega, by omega⟩ (fun h126 => ?_) (fun h126 => ?_)
    · refine w_iconst ta_120 rfl ?_
      refine w_iconst ta_120 rfl ?_
      refine w_cV [_, _, _] _ ta_120 rfl rfl rfl mt_111 rfl rfl rfl rfl (Nat.le_of_ble_eq_true rfl) (fun _ => rfl) rfl (cm_requires _ X _ 2 (by decide) (by omega) (by omega)) ?_
      rintro Z hZ
      have hz : (tK (X 86) (X 80 7) q ≠ 2 ∧ Z = wr (wr X 80 12 2) 80 13 (X 80 9)) ∨ (tK (X 86) (X 80 7) q = 2 ∧ Z = X) := hZ.elim (fun q => Or.inl ⟨by omega, q.2⟩) (fun q => Or.inr ⟨by omega, q.2⟩)
      have fr : FrR X Z := hz.elim (fun q => by rw [q.2]; exact FrR.fail _ _ _) (fun q => by rw [q.2]; exact FrR.rf _)
      have z8 : Z 80 8 = X 80 8 := hz.elim (fun q => by rw [q.2, wr_s, up_n _ _ (by decide), wr_s, up_n _ _ (by decide)]) (fun q => by rw [q.2])
      have z12 : (tK (X 86) (X 80 7) q ≠ 2 ∧ Z 80 12 = 2) ∨ (tK (X 86) (X 80 7) q = 2 ∧ Z 80 12 = 0) := hz.elim (fun q => Or.inl ⟨q.1, by rw [q.2, wr_s, up_n _ _ (by decide), wr_s, up_s]⟩) (fun q => Or.inr ⟨q.1, by rw [q.2]; exact hf⟩)
      refine w_aload_n ta_120 rfl rfl ?_
      refine w_cV [_] _ ta_120 rfl rfl rfl mt_115 rfl rfl rfl rfl (Nat.le_of_ble_eq_true rfl) (fun _ => rfl) rfl (cm_reads _ Z (hT.of (fr.2 7 (by omega)) (fr.1 86 (by decide))) (by omega) (by omega) (fun _ => by rw [z8, fr.2 7 (by omega), h8]; omega)) ?_
      rintro Z4 hZ4
      refine w_vret ta_120 rfl ?_
      rcases hz with ⟨k2, e⟩ | ⟨k2, e⟩
      · obtain ⟨-, e4⟩ := hZ4.resolve_right (fun q => by have := q.1; omega)
        refine ⟨rfl, by rw [e4]; exact fr, Or.inl ⟨k2, ?_⟩⟩
        rw [e4, e, h9]
        exact FlM.mk _ _ _
      · obtain ⟨-, e4⟩ := hZ4.resolve_left (fun q => by have := q.1; omega)
        rw [e, h8] at e4
        exact ⟨rfl, e4.fr, Or.inr ⟨k2, e4.lk (by omega) (by omega)⟩⟩
    · refine w_iconst ta_120 rfl ?_
      refine w_goto ta_120 rfl ?_
      refine w_iconst ta_120 rfl ?_
      refine w_cV [_, _, _] _ ta_120 rfl rfl rfl mt_111 rfl rfl rfl rfl (Nat.le_of_ble_eq_true rfl) (fun _ => rfl) rfl (cm_requires _ X _ 2 (by decide) (by omega) (by omega)) ?_
      rintro Z hZ
      have hz : (tK (X 86) (X 80 7) q ≠ 2 ∧ Z = wr (wr X 80 12 2) 80 13 (X 80 9)) ∨ (tK (X 86) (X 80 7) q = 2 ∧ Z = X) := hZ.elim (fun q => Or.inl ⟨by omega, q.2⟩) (fun q => Or.inr ⟨by omega, q.2⟩)
      have fr : FrR X Z := hz.elim (fun q => by rw [q.2]; exact FrR.fail _ _ _) (fun q => by rw [q.2]; exact FrR.rf _)
      have z8 : Z 80 8 = X 80 8 := hz.elim (fun q => by rw [q.2, wr_s, up_n _ _ (by decide), wr_s, up_n _ _ (by decide)]) (fun q => by rw [q.2])
      have z12 : (tK (X 86) (X 80 7) q ≠ 2 ∧ Z 80 12 = 2) ∨ (tK (X 86) (X 80 7) q = 2 ∧ Z 80 12 = 0) := hz.elim (fun q => Or.inl ⟨q.1, by rw [q.2, wr_s, up_n _ _ (by decide), wr_s, up_s]⟩) (fun q => Or.inr ⟨q.1, by rw [q.2]; exact hf⟩)
      refine w_aload_n ta_120 rfl rfl ?_
      refine w_cV [_] _ ta_120 rfl rfl rfl mt_115 rfl rfl rfl rfl (Nat.le_of_ble_eq_true rfl) (fun _ => rfl) rfl (cm_reads _ Z (hT.of (fr.2 7 (by omega)) (fr.1 86 (by decide))) (by omega) (by omega) (fun _ => by rw [z8, fr.2 7 (by omega), h8]; omega)) ?_
      rintro Z4 hZ4
      refine w_vret ta_120 rfl ?_
      rcases hz with ⟨k2, e⟩ | ⟨k2, e⟩
      · obtain ⟨-, e4⟩ := hZ4.resolve_right (fun q => by have := q.1; omega)
        refine ⟨rfl, by rw [e4]; exact fr, Or.inl ⟨k2, ?_⟩⟩
        rw [e4, e, h9]
        exact FlM.mk _ _ _
      · obtain ⟨-, e4⟩ := hZ4.resolve_left (fun q => by have := q.1; omega)
        rw [e, h8] at e4
        exact ⟨rfl, e4.fr, Or.inr ⟨k2, e4.lk (by omega) (by omega)⟩⟩
set_option maxHeartbeats 4000000 in
set_option maxRecDepth 20000 in
theorem lp_rl113b (D : Nat) (X : Mem) (f0 : 1 ≤ X 80 12) (f1 : X 80 12 ≤ 5) (w : Int) : Wp (D + 4) 120 (113, [some (.inr (.inr 80)), some (.inl w)], [], X) (fun r M' => r = none ∧ M' = X) := by
  skip
  refine w_aload_n ta_120 rfl rfl ?_
  refine w_getI 12 ta_120 rfl rfl rfl ?_
  refine w_if_ne ta_120 rfl ⟨by omega, by omega⟩ (fun h117 => ?_) (fun h117 => ?_)
  · refine w_aload_n ta_120 rfl rfl ?_
    refine w_cV [_] _ ta_120 rfl rfl rfl mt_115 rfl rfl rfl rfl (Nat.le_of_ble_eq_true rfl) (fun _ => rfl) rfl (cm_reads1 _ X f0 f1) ?_
    rintro Z hZ
    refine w_vret ta_120 rfl ?_
    exact ⟨rfl, hZ⟩
  · exfalso; omega
set_option maxHeartbeats 4000000 in
set_option maxRecDepth 20000 in
theorem lp_rl66f (D : Nat) (X : Mem) (f0 : 1 ≤ X 80 12) (f1 : X 80 12 ≤ 5) (w : Int) : Wp (D + 4) 120 (66, [some (.inr (.inr 80)), some (.inl w)], [], X) (fun r M' => r = none ∧ M' = X) := by
  skip
  refine w_aload_n ta_120 rfl rfl ?_
  refine w_getI 12 ta_120 rfl rfl rfl ?_
  refine w_if_ne ta_120 rfl ⟨by omega, by omega⟩ (fun h70 => ?_) (fun h70 => ?_)
  · exact lp_rl113b D X f0 f1 w
  · exfalso; omega
set_option maxHeartbeats 4000000 in
set_option maxRecDepth 20000 in
theorem lp_rl46f (D : Nat) (X : Mem) (f0 : 1 ≤ X 80 12) (f1 : X 80 12 ≤ 5) (w : Int) : Wp (D + 4) 120 (46, [some (.inr (.inr 80)), some (.inl w)], [], X) (fun r M' => r = none ∧ M' = X) := by
  skip
  refine w_aload_n ta_120 rfl rfl ?_
  refine w_cV [_] _ ta_120 rfl rfl rfl mt_115 rfl rfl rfl rfl (Nat.le_of_ble_eq_true rfl) (fun _ => rfl) rfl (cm_reads1 _ X f0 f1) ?_
  rintro Z hZ
  obtain rfl := hZ.symm
  refine w_aload_n ta_120 rfl rfl ?_
  refine w_getI 12 ta_120 rfl rfl rfl ?_
  refine w_if_le ta_120 rfl ⟨by omega, by omega⟩ (fun h54 => ?_) (fun h54 => ?_)
  · exfalso; omega
  · refine w_vret ta_120 rfl ?_
    exact ⟨rfl, rfl⟩
def LnM (N M' : Mem) (S : Rs) : Prop := FrM N M' ∧ ((S.1 = 0 ∧ DfM M' S.2.2.2.1 S.2.2.2.2.1 ∧ TdM M' S.2.2.2.2.2 ∧ LK M' S.2.2.1) ∨ (1 ≤ S.1 ∧ S.1 ≤ 5 ∧ FlM M' S.1 S.2.1))
theorem LnM.fl {N M' : Mem} {S : Rs} {x y : Int} (h : FrM N M') (h1 : S.1 = x) (x1 : 1 ≤ x) (x2 : x ≤ 5) (h2 : S.2.1 = y) (q : FlM M' x y) : LnM N M' S := ⟨h, Or.inr ⟨by omega, by omega, by rw [h1, h2]; exact q⟩⟩
theorem spC_2 {t : Int → Int} {L : Int} {md : Int → Int} (d : Nat) {p : Int} {dr ch : Int → Int} {td : Int} (h4 : tK t L p ≠ 4) (h2 : ¬ (tK t L p = 2 ∧ 0 < td)) (h1 : tK t L p ≠ 1) : spC t L md d p dr ch td = (2, tS t L p, p, dr, ch, md) := by
  cases d <;> (rw [spC, if_neg h4, if_neg h2, if_pos h1])
theorem spC_4 {t : Int → Int} {L : Int} {md : Int → Int} (d : Nat) {p : Int} {dr ch : Int → Int} {td : Int} (h4 : tK t L p = 4) : spC t L md d p dr ch td = (1, tS t L p, p, dr, ch, md) := by
  cases d <;> (rw [spC, if_pos h4])
theorem spC_0 {t : Int → Int} {L : Int} {md : Int → Int} (d : Nat) {p : Int} {dr ch : Int → Int} {td : Int} (h2 : tK t L p = 2) (ht : 0 < td) : spC t L md d p dr ch td = (0, 0, tN t L p, dr, ch, md) := by
  cases d <;> (rw [spC, if_neg (by omega), if_pos ⟨h2, ht⟩])
def Lp66 (D : Nat) (md : Int → Int) (w : Int) (d : Nat) : Prop := ∀ (X : Mem) (q : Int) (dr ch : Int → Int) (td : Int), TpM X → LK X q → DfM X dr ch → TdM X md → dr 0 = 16 - d → 0 < td → Wp (D + 4) 120 (66, [some (.inr (.inr 80)), some (.inl w)], [], X) (fun r M' => r = none ∧ LnM X M' (spC (X 86) (X 80 7) md d q dr ch td))
set_option maxHeartbeats 4000000 in
set_option maxRecDepth 20000 in
theorem rl_af (D : Nat) (md : Int → Int) (w : Int) (d : Nat) (ih : ∀ d', d = d' + 1 → Lp66 D md w d') (X Z : Mem) (q : Int) (dr ch : Int → Int) (td : Int) (hT : TpM X) (hTd : TdM X md) (hd : dr 0 = 16 - d) (t0 : 0 ≤ td) (k4 : tK (X 86) (X 80 7) q ≠ 4) (hk : tK (X 86) (X 80 7) q = 1 ∨ td = 0) (hR : RC X Z q dr ch) : Wp (D + 4) 120 (66, [some (.inr (.inr 80)), some (.inl w)], [], Z) (fun r M' => r = none ∧ LnM X M' (spC (X 86) (X 80 7) md d q dr ch td)) := by
  obtain ⟨fr, e87, hR⟩ := hR
  rcases hR with ⟨k1, fl⟩ | ⟨k1, n16, fl⟩ | ⟨k1, n16, nb, fl⟩ | ⟨k1, n16, bd, hD, hL⟩
  · refine (lp_rl66f D Z (by have := fl.1; omega) (by have := fl.1; omega) w).imp ?_
    rintro r M' ⟨hr, rfl⟩
    exact ⟨hr, by rw [spC_2 d k4 (by omega) k1]; exact LnM.fl fr rfl (by simp) (by simp) rfl fl⟩
  · refine (lp_rl66f D Z (by have := fl.1; omega) (by have := fl.1; omega) w).imp ?_
    rintro r M' ⟨hr, rfl⟩
    obtain rfl : d = 0 := by omega
    exact ⟨hr, by rw [spC, if_neg k4, if_neg (by omega), if_neg (fun z => z k1)]; exact LnM.fl fr rfl (by simp) (by simp) rfl fl⟩
  · refine (lp_rl66f D Z (by have := fl.1; omega) (by have := fl.1; omega) w).imp ?_
    rintro r M' ⟨hr, rfl⟩
    obtain ⟨d', rfl⟩ : ∃ d', d = d' + 1 := ⟨d - 1, by omega⟩
    exact ⟨hr, by rw [spC, if_neg k4, if_neg (by omega), if_neg (fun z => z k1), if_pos nb]; exact LnM.fl fr rfl (by simp) (by simp) rfl fl⟩
  · obtain ⟨d', rfl⟩ : ∃ d', d = d' + 1 := ⟨d - 1, by omega⟩
    have e7 : Z 80 7 = X 80 7 := fr.2 7 (by omega)
    have e86 : Z 86 = X 86 := fr.1 86 (by decide) (by decide) (by decide)
    have g := ih d' rfl Z _ _ _ (td + 1) (hT.of e7 e86) hL hD (hTd.of e87) (by rw [up_s]; omega) (by omega)
    rw [e7, e86] at g
    refine g.imp ?_
    rintro r M' ⟨hr, hQ⟩
    exact ⟨hr, by rw [spC, if_neg k4, if_neg (by omega), if_neg (fun z => z k1), if_neg (fun z => z bd)]; exact ⟨fr.tr hQ.1, hQ.2⟩⟩
set_option maxHeartbeats 4000000 in
set_option maxRecDepth 20000 in
theorem lp_rl66 (D : Nat) (md : Int → Int) (w : Int) : ∀ d, Lp66 D md w d := by
  intro d
  induction d using Nat.strongRecOn with
  | _ d ih =>
    intro X q dr ch td hT hL hD hTd hd t0
    obtain ⟨⟨q0, q1⟩, -⟩ := id hL
    have lb := hL.b
    have kb := tK_b (X 86) (X 80 7) q
    have sb := srt_b kb.1 kb.2
    refine w_aload_n ta_120 rfl rfl ?_
    refine w_getI 12 ta_120 rfl rfl rfl ?_
    refine w_if_ne ta_120 rfl ⟨by omega, by omega⟩ (fun h70 => ?_) (fun h70 => ?_)
    · first
        | (have hn0 : X 80 12 ≠ 0 := by omega
           obtain ⟨k4, f1, f2⟩ := hL.f hn0
           refine (lp_rl113b D X (by omega) (by omega) w).imp ?_
           rintro r M' ⟨hr, rfl⟩
           exact ⟨hr, by rw [spC_4 d k4]; exact LnM.fl (FrM.rf _) rfl (by simp) (by simp) rfl ⟨f1, f2⟩⟩)
        | (refine (lp_rl113a D X hT q q0 q1 hM w).imp ?_
           rintro r M' ⟨hr, fr, hq⟩
           rcases hq with ⟨k2, fl⟩ | ⟨k2, hL2⟩
           · exact ⟨hr, by rw [spC_2 d hM.1 (by omega) (by omega)]; exact LnM.fl fr.m rfl (by simp) (by simp) rfl fl⟩
           · exact ⟨hr, by rw [spC_0 d k2 t0]; exact ⟨fr.m, Or.inl ⟨rfl, hD.of (fr.1 85 (by decide)), hTd.of (fr.1 87 (by decide)), hL2⟩⟩⟩)
    · have hM := hL.t h70
      refine w_aload_n ta_120 rfl rfl ?_
      refine w_getIv 10 (v := srt (tK (X 86) (X 80 7) q)) ta_120 rfl rfl rfl hM.2.2.2.1 ?_
      refine w_iconst ta_120 rfl ?_
      refine w_icmp_ne ta_120 rfl ⟨by omega, by omega⟩ ⟨by omega, by omega⟩ (fun h78 => ?_) (fun h78 => ?_)
      · first
          | (have hn0 : X 80 12 ≠ 0 := by omega
             obtain ⟨k4, f1, f2⟩ := hL.f hn0
             refine (lp_rl113b D X (by omega) (by omega) w).imp ?_
             rintro r M' ⟨hr, rfl⟩
             exact ⟨hr, by rw [spC_4 d k4]; exact LnM.fl (FrM.rf _) rfl (by simp) (by simp) rfl ⟨f1, f2⟩⟩)
          | (refine (lp_rl113a D X hT q q0 q1 hM w).imp ?_
             rintro r M' ⟨hr, fr, hq⟩
             rcases hq with ⟨k2, fl⟩ | ⟨k2, hL2⟩
             · exact ⟨hr, by rw [spC_2 d hM.1 (by omega) (by omega)]; exact LnM.fl fr.m rfl (by simp) (by simp) rfl fl⟩
             · exact ⟨hr, by rw [spC_0 d k2 t0]; exact ⟨fr.m, Or.inl ⟨rfl, hD.of (fr.1 85 (by decide)), hTd.of (fr.1 87 (by decide)), hL2⟩⟩⟩)
      · refine w_aload_n ta_120 rfl rfl ?_
        refine w_cV [_] _ ta_120 rfl rfl rfl mt_119 rfl rfl rfl rfl (Nat.le_of_ble_eq_true rfl) (fun _ => rfl) rfl (cm_readCell _ X hT q q0 q1 hM dr ch hD) ?_
        rintro Z hR
        refine w_goto ta_120 rfl ?_
        exact rl_af D md w d (fun d' e => ih d' (by omega)) X Z q dr ch td hT hTd hd (by omega) hM.1 (Or.inl (by omega)) hR
set_option maxHeartbeats 4000000 in
set_option maxRecDepth 20000 in
theorem lp_rl46 (D : Nat) (N : Mem) (hT : TpM N) (p : Int) (p0 : 0 ≤ p) (p1 : p ≤ N 80 7) (hM : TM N p) (dr ch : Int → Int) (hD : DfM N dr ch) (md : Int → Int) (hTd : TdM N md) (k3 : tK (N 86) (N 80 7) p ≠ 3) (w : Int) (hw : w = tW (N 86) (N 80 7) p) (w4 : w ≠ -4) (mw : md w = 0) : Wp (D + 4) 120 (46, [some (.inr (.inr 80)), some (.inl w)], [], N) (fun r M' => r = none ∧ LnM N M' (spL (N 86) (N 80 7) p dr ch md)) := by
  obtain ⟨k4, hf, h9, h10, h8, h11⟩ := id hM
  have kb := tK_b (N 86) (N 80 7) p
  have sb := srt_b kb.1 kb.2
  obtain ⟨l0, l1, hb⟩ := id hT
  have nb := tN_b (t := N 86) (L := N 80 7) p1
  have d0 := hD.2.2.1
  have d1 := hD.2.2.2.1
  refine w_aload_n ta_120 rfl rfl ?_
  refine w_cV [_] _ ta_120 rfl rfl rfl mt_115 rfl rfl rfl rfl (Nat.le_of_ble_eq_true rfl) (fun _ => rfl) rfl (cm_reads0 _ N hT (tN (N 86) (N 80 7) p) h8 (by omega) (by omega) hf) ?_
  rintro Z hN
  have fr := hN.fr
  have hL := hN.lk (by omega) (by omega)
  have hb2 := hL.b
  have e7 : Z 80 7 = N 80 7 := fr.2 7 (by omega)
  have e86 : Z 86 = N 86 := fr.1 86 (by decide)
  have hTZ : TpM Z := hT.of e7 e86
  have kb2 := tK_b (N 86) (N 80 7) (tN (N 86) (N 80 7) p)
  refine w_aload_n ta_120 rfl rfl ?_
  refine w_getI 12 ta_120 rfl rfl rfl ?_
  refine w_if_le ta_120 rfl ⟨by omega, by omega⟩ (fun h54 => ?_) (fun h54 => ?_)
  · have hM2 := hL.t (by omega)
    have wb : 0 ≤ w ∧ w ≤ 4 := by have := tW_b (N 86) (N 80 7) p; omega
    refine w_iload_n ta_120 rfl rfl ?_
    refine w_if_ne ta_120 rfl ⟨by omega, by omega⟩ (fun h59 => ?_) (fun h59 => ?_)
    · refine w_aload_n ta_120 rfl rfl ?_
      refine w_getR ta_120 rfl rfl ?_
      refine w_iload_n ta_120 rfl rfl ?_
      refine w_iconst ta_120 rfl ?_
      refine w_bastore ta_120 rfl rfl (by omega) (by omega) (by omega) (by omega) ?_
      refine w_aload_n ta_120 rfl rfl ?_
      refine w_getR ta_120 rfl rfl ?_
      refine w_iload_n ta_120 rfl rfl ?_
      refine w_aload_n ta_120 rfl rfl ?_
      refine w_iload_n ta_120 rfl rfl ?_
      refine w_cI [_] _ ta_120 rfl rfl rfl mt_116 rfl rfl rfl rfl (Nat.le_of_ble_eq_true rfl) (fun q => by cases q) rfl (cm_leastOf _ _ w (by constructor <;> omega)) ?_
      rintro lo Z2 ⟨hlo, rfl⟩
      have hlo : lo = loZ w := hlo
      refine w_iload_n ta_120 rfl rfl ?_
      refine w_cI [_] _ ta_120 rfl rfl rfl mt_117 rfl rfl rfl rfl (Nat.le_of_ble_eq_true rfl) (fun q => by cases q) rfl (cm_mostOf _ _ w (by constructor <;> omega)) ?_
      rintro hi Z2 ⟨hhi, rfl⟩
      have hhi : hi = hiW w := hhi
      have lb := loZ_b w
      have hib := hiW_b w
      refine w_cI [_, _, _] _ ta_120 rfl rfl rfl mt_118 rfl rfl rfl rfl (Nat.le_of_ble_eq_true rfl) (fun _ => rfl) rfl (cm_readNumber _ _ (hTZ.of (by rw [wr_n _ _ _ (by decide)]) (wr_n _ _ _ (by decide))) (tN (N 86) (N 80 7) p) (by omega) (by rw [wr_n _ _ _ (by decide)]; omega) (hM2.of (wr_n _ _ _ (by decide)) (wr_n _ _ _ (by decide))) lo hi (by constructor <;> omega) (by constructor <;> omega)) ?_
      rintro v Z3 ⟨fr3, hR⟩
      rw [wr_n _ _ _ (by decide), wr_n _ _ _ (by decide), e7, e86, hlo, hhi] at hR
      have f3 : ∀ c, c ≠ 80 → c ≠ 87 → Z3 c = N c := fun c h1 h2 => by rw [fr3.1 c h1, wr_n _ _ _ h2]; exact fr.1 c h1
      have g3 : ∀ j, j < 8 ∨ 13 < j → Z3 80 j = N 80 j := fun j hj => by rw [fr3.2 j hj, wr_n _ _ _ (by decide)]; exact fr.2 j hj
      have t3 : Z3 87 = upI (N 87) w 1 := by rw [fr3.1 87 (by decide), wr_s, fr.1 87 (by decide)]
      refine w_iastore ta_120 rfl rfl (by omega) (by omega) (by omega) ?_
      have eS : spL (N 86) (N 80 7) p dr ch md = spN (N 86) (N 80 7) md w (tN (N 86) (N 80 7) p) dr ch := by unfold spL; rw [if_neg k4, if_neg k3, ← hw, if_neg w4, if_neg h59, if_neg (by omega)]
      rw [eS]
      clear eS
      have k42 : tK (N 86) (N 80 7) (tN (N 86) (N 80 7) p) ≠ 4 := by have := hM2.1; rw [e7, e86] at this; exact this
      have frX : FrM N (wr Z3 85 w v) := ⟨fun c h1 h2 h3 => by rw [wr_n _ _ _ h2]; exact f3 c h1 h3, fun j hj => by rw [wr_n _ _ _ (by decide)]; exact g3 j hj⟩
      have x80 : wr Z3 85 w v 80 = Z3 80 := wr_n _ _ _ (by decide)
      have x86 : wr Z3 85 w v 86 = N 86 := (wr_n _ _ _ (by decide)).trans (f3 86 (by decide) (by decide))
      have x7 : wr Z3 85 w v 80 7 = N 80 7 := by rw [x80]; exact g3 7 (by omega)
      generalize hq2 : (tN (N 86) (N 80 7) p) = q at *
      unfold spN
      rw [if_neg k42]
      rcases hR with ⟨k1, hv, fl⟩ | ⟨k1, nbd, hv, fl⟩ | ⟨k1, bd, hv, hL3⟩
      · rw [if_pos k1]
        refine (lp_rl113b D _ (by rw [x80, fl.1]; decide) (by rw [x80, fl.1]; decide) w).imp ?_
        rintro r M' ⟨hr, rfl⟩
        exact ⟨hr, LnM.fl frX rfl (by simp) (by simp) rfl ⟨by rw [x80]; exact fl.1, by rw [x80]; exact fl.2⟩⟩
      · rw [if_neg (fun z => z k1), if_pos nbd]
        refine (lp_rl113b D _ (by rw [x80, fl.1]; decide) (by rw [x80, fl.1]; decide) w).imp ?_
        rintro r M' ⟨hr, rfl⟩
        exact ⟨hr, LnM.fl frX rfl (by simp) (by simp) rfl ⟨by rw [x80]; exact fl.1, by rw [x80]; exact fl.2⟩⟩
      · rw [if_neg (fun z => z k1), if_neg (fun z => z bd)]
        have hLX : LK (wr Z3 85 w v) (tN (N 86) (N 80 7) q) := hL3.of x80 (wr_n _ _ _ (by decide))
        have nb3 := hLX.1
        by_cases e12 : wr Z3 85 w v 80 12 = 0
        · have hMX := hLX.t e12
          have k5 := hMX.1
          rw [x7, x86] at k5
          rw [if_neg k5]
          refine (lp_rl113a D _ (hT.of x7 x86) _ nb3.1 nb3.2 hMX w).imp ?_
          rintro r M' ⟨hr, fr4, hq⟩
          rw [x7, x86] at hq
          rcases hq with ⟨k2, fl⟩ | ⟨k2, hL4⟩
          · rw [if_pos k2]
            exact ⟨hr, LnM.fl (frX.tr fr4.m) rfl (by simp) (by simp) rfl fl⟩
          · rw [if_neg (fun z => z k2)]
            refine ⟨hr, frX.tr fr4.m, Or.inl ⟨rfl, ?_, ?_, hL4⟩⟩
            · exact hD.st (by omega) (by omega) bd (by rw [fr4.1 85 (by decide), wr_s, f3 85 (by decide) (by decide), hv])
            · refine ⟨fun j j0 j1 => ?_, fun j => ?_, ?_⟩
              · rw [fr4.1 87 (by decide), wr_n _ _ _ (by decide), t3]
                show upI (N 87) w 1 j = upI md w 1 j
                by_cases e : j = w
                · rw [e, up_s, up_s]
                · rw [up_n _ _ e, up_n _ _ e]; exact hTd.1 j j0 j1
              · show upI md w 1 j = 0 ∨ upI md w 1 j = 1
                by_cases e : j = w
                · rw [e, up_s]; exact Or.inr rfl
                · rw [up_n _ _ e]; exact hTd.2.1 j
              · show upI md w 1 0 = 0
                rw [up_n _ _ (fun z => h59 z.symm)]; exact hTd.2.2
        · obtain ⟨k5, f5, f6⟩ := hLX.f e12
          rw [x7, x86] at k5 f6
          rw [if_pos k5]
          refine (lp_rl113b D _ (by omega) (by omega) w).imp ?_
          rintro r M' ⟨hr, rfl⟩
          exact ⟨hr, LnM.fl frX rfl (by simp) (by simp) rfl ⟨f5, f6⟩⟩
    · refine w_aload_n ta_120 rfl rfl ?_
      refine w_cV [_] _ ta_120 rfl rfl rfl mt_119 rfl rfl rfl rfl (Nat.le_of_ble_eq_true rfl) (fun _ => rfl) rfl (cm_readCell _ Z hTZ (tN (N 86) (N 80 7) p) (by omega) (by omega) hM2 dr ch (hD.of (fr.1 85 (by decide)))) ?_
      rintro Z2 hR
      have eS : spL (N 86) (N 80 7) p dr ch md = spC (N 86) (N 80 7) md (16 - dr 0).toNat (tN (N 86) (N 80 7) p) dr ch 0 := by unfold spL; rw [if_neg k4, if_neg k3, ← hw, if_neg w4, if_pos h59]
      rw [eS]
      have g := rl_af D md w (16 - dr 0).toNat (fun d' _ => lp_rl66 D md w d') Z Z2 (tN (N 86) (N 80 7) p) dr ch 0 hTZ (hTd.of (fr.1 87 (by decide))) (by omega) (by omega) hM2.1 (Or.inr rfl) hR
      rw [e7, e86] at g
      refine g.imp ?_
      rintro r M' ⟨hr, hQ⟩
      exact ⟨hr, fr.m.tr hQ.1, hQ.2⟩
  · refine w_vret ta_120 rfl ?_
    obtain ⟨k5, f5, f6⟩ := hL.f (by omega)
    rw [e7, e86] at k5 f6
    refine ⟨rfl, ?_⟩
    by_cases w0 : w = 0
    · have eS : spL (N 86) (N 80 7) p dr ch md = (1, tS (N 86) (N 80 7) (tN (N 86) (N 80 7) p), (tN (N 86) (N 80 7) p), dr, ch, md) := by unfold spL; rw [if_neg k4, if_neg k3, ← hw, if_neg w4, if_pos w0]; exact spC_4 _ k5
      rw [eS]
      exact LnM.fl fr.m rfl (by simp) (by simp) rfl ⟨f5, f6⟩
    · have eS : spL (N 86) (N 80 7) p dr ch md = (1, tS (N 86) (N 80 7) (tN (N 86) (N 80 7) p), (tN (N 86) (N 80 7) p), dr, ch, md) := by unfold spL; rw [if_neg k4, if_neg k3, ← hw, if_neg w4, if_neg w0, if_neg (by omega)]; unfold spN; rw [if_pos k5]
      rw [eS]
      exact LnM.fl fr.m rfl (by simp) (by simp) rfl ⟨f5, f6⟩
set_option maxHeartbeats 4000000 in
set_option maxRecDepth 20000 in
theorem cm_readLine (D : Nat) (N : Mem) (hT : TpM N) (p : Int) (p0 : 0 ≤ p) (p1 : p ≤ N 80 7) (hM : TM N p) (dr ch : Int → Int) (hD : DfM N dr ch) (md : Int → Int) (hTd : TdM N md) (k3 : tK (N 86) (N 80 7) p ≠ 3) : CV (D + 4) 120 [.inr (.inr 80)] N (fun M' => LnM N M' (spL (N 86) (N 80 7) p dr ch md)) := by
  refine mk_C mt_120 rfl (Nat.le_of_ble_eq_true rfl) (L := [some _, none]) rfl ?_
  obtain ⟨k4, hf, h9, h10, h8, h11⟩ := id hM
  have kb := tK_b (N 86) (N 80 7) p
  have sb := srt_b kb.1 kb.2
  obtain ⟨l0, l1, hb⟩ := id hT
  have nb := tN_b (t := N 86) (L := N 80 7) p1
  refine w_aload_n ta_120 rfl rfl ?_
  refine w_cI [_] _ ta_120 rfl rfl rfl mt_114 rfl rfl rfl rfl (Nat.le_of_ble_eq_true rfl) (fun _ => rfl) rfl (cm_lineNow _ N hT p p0 p1 hM) ?_
  rintro w Z ⟨hw, hz⟩
  obtain rfl := hz.symm
  have wb := tW_b (N 86) (N 80 7) p
  rw [← hw] at wb
  have mdw := hTd.2.1 w
  refine w_istn_1_2 ta_120 rfl rfl ?_
  refine w_aload_n ta_120 rfl rfl ?_
  refine w_iload_n ta_120 rfl rfl ?_
  refine w_bipush ta_120 rfl ?_
  refine w_icmp_eq ta_120 rfl ⟨by omega, by omega⟩ ⟨by omega, by omega⟩ (fun h9 => ?_) (fun h9 => ?_)
  · refine w_iconst ta_120 rfl ?_
    refine w_iconst ta_120 rfl ?_
    refine w_cV [_, _, _] _ ta_120 rfl rfl rfl mt_111 rfl rfl rfl rfl (Nat.le_of_ble_eq_true rfl) (fun _ => rfl) rfl (cm_requires _ N _ 2 (by decide) (by omega) (by omega)) ?_
    rintro Z1 hZ1
    have hz1 : (w = -4 ∧ Z1 = wr (wr N 80 12 2) 80 13 (N 80 9)) ∨ (w ≠ -4 ∧ N = Z1) := hZ1.elim (fun q => Or.inl ⟨by omega, q.2⟩) (fun q => Or.inr ⟨by omega, q.2.symm⟩)
    have e87 : Z1 87 = N 87 := hz1.elim (fun q => by rw [q.2, wr_n _ _ _ (by decide), wr_n _ _ _ (by decide)]) (fun q => by rw [← q.2])
    have z12 : (w = -4 ∧ Z1 80 12 = 2) ∨ (w ≠ -4 ∧ Z1 80 12 = 0) := hz1.elim (fun q => Or.inl ⟨q.1, by rw [q.2, wr_s, up_n _ _ (by decide), wr_s, up_s]⟩) (fun q => Or.inr ⟨q.1, by rw [← q.2]; exact hf⟩)
    refine w_aload_n ta_120 rfl rfl ?_
    refine w_iload_n ta_120 rfl rfl ?_
    refine w_bipush ta_120 rfl ?_
    refine w_icmp_eq ta_120 rfl ⟨by omega, by omega⟩ ⟨by omega, by omega⟩ (fun h25 => ?_) (fun h25 => ?_)
    · refine w_iconst ta_120 rfl ?_
      refine w_goto ta_120 rfl ?_
      refine w_iconst ta_120 rfl ?_
      refine w_cV [_, _, _] _ ta_120 rfl rfl rfl mt_111 rfl rfl rfl rfl (Nat.le_of_ble_eq_true rfl) (fun _ => rfl) rfl (cm_requires _ Z1 _ 4 (by decide) (by omega) (by omega)) ?_
      rintro Z2 hZ2
      rcases hz1 with ⟨w4, e1⟩ | ⟨w4, rfl⟩
      · obtain ⟨-, e2⟩ := hZ2.resolve_left (fun q => by have := q.1.2; omega)
        have eS : spL (N 86) (N 80 7) p dr ch md = (2, tS (N 86) (N 80 7) p, p, dr, ch, md) := by unfold spL; rw [if_neg k4, if_neg k3, if_pos (hw.symm.trans w4)]
        rw [eS, e2]
        refine (lp_rl46f D Z1 (by omega) (by omega) w).imp ?_
        rintro r M' ⟨hr, rfl⟩
        refine ⟨hr, LnM.fl (by rw [e1]; exact (FrR.fail _ _ _).m) rfl (by simp) (by simp) rfl ?_⟩
        rw [e1, hM.2.2.1]
        exact FlM.mk _ _ _
      · rcases hZ2 with ⟨q, e2⟩ | ⟨q, e2⟩
        · have m1 : md w = 1 := by omega
          have w0 : w ≠ 0 := fun z => by rw [z, hTd.2.2] at m1; omega
          have eS : spL (N 86) (N 80 7) p dr ch md = (4, tS (N 86) (N 80 7) p, p, dr, ch, md) := by unfold spL; rw [if_neg k4, if_neg k3, ← hw, if_neg w4, if_neg w0, if_pos m1]
          have zf : Z2 80 12 = 4 := by rw [e2, wr_s, up_n _ _ (by decide), wr_s, up_s]
          rw [eS]
          refine (lp_rl46f D Z2 (by omega) (by omega) w).imp ?_
          rintro r M' ⟨hr, rfl⟩
          refine ⟨hr, LnM.fl (by rw [e2]; exact (FrR.fail _ _ _).m) rfl (by simp) (by simp) rfl ?_⟩
          rw [e2, hM.2.2.1]
          exact FlM.mk _ _ _
        · rw [e2]
          exact lp_rl46 D N hT p p0 p1 hM dr ch hD md hTd k3 w hw w4 (by omega)
    · refine w_aload_n ta_120 rfl rfl ?_
      refine w_getR ta_120 rfl rfl ?_
      refine w_iload_n ta_120 rfl rfl ?_
      refine w_baloadv (v := md w) ta_120 rfl rfl (by omega) (by omega) (by omega) (by rw [e87]; exact hTd.1 w (by omega) (by omega)) ?_
      refine w_if_ne ta_120 rfl ⟨by omega, by omega⟩ (fun h34 => ?_) (fun h34 => ?_)
      · refine w_iconst ta_120 rfl ?_
        refine w_iconst ta_120 rfl ?_
        refine w_cV [_, _, _] _ ta_120 rfl rfl rfl mt_111 rfl rfl rfl rfl (Nat.le_of_ble_eq_true rfl) (fun _ => rfl) rfl (cm_requires _ Z1 _ 4 (by decide) (by omega) (by omega)) ?_
        rintro Z2 hZ2
        rcases hz1 with ⟨w4, e1⟩ | ⟨w4, rfl⟩
        · obtain ⟨-, e2⟩ := hZ2.resolve_left (fun q => by have := q.1.2; omega)
          have eS : spL (N 86) (N 80 7) p dr ch md = (2, tS (N 86) (N 80 7) p, p, dr, ch, md) := by unfold spL; rw [if_neg k4, if_neg k3, if_pos (hw.symm.trans w4)]
          rw [eS, e2]
          refine (lp_rl46f D Z1 (by omega) (by omega) w).imp ?_
          rintro r M' ⟨hr, rfl⟩
          refine ⟨hr, LnM.fl (by rw [e1]; exact (FrR.fail _ _ _).m) rfl (by simp) (by simp) rfl ?_⟩
          rw [e1, hM.2.2.1]
          exact FlM.mk _ _ _
        · rcases hZ2 with ⟨q, e2⟩ | ⟨q, e2⟩
          · have m1 : md w = 1 := by omega
            have w0 : w ≠ 0 := fun z => by rw [z, hTd.2.2] at m1; omega
            have eS : spL (N 86) (N 80 7) p dr ch md = (4, tS (N 86) (N 80 7) p, p, dr, ch, md) := by unfold spL; rw [if_neg k4, if_neg k3, ← hw, if_neg w4, if_neg w0, if_pos m1]
            have zf : Z2 80 12 = 4 := by rw [e2, wr_s, up_n _ _ (by decide), wr_s, up_s]
            rw [eS]
            refine (lp_rl46f D Z2 (by omega) (by omega) w).imp ?_
            rintro r M' ⟨hr, rfl⟩
            refine ⟨hr, LnM.fl (by rw [e2]; exact (FrR.fail _ _ _).m) rfl (by simp) (by simp) rfl ?_⟩
            rw [e2, hM.2.2.1]
            exact FlM.mk _ _ _
          · rw [e2]
            exact lp_rl46 D N hT p p0 p1 hM dr ch hD md hTd k3 w hw w4 (by omega)
      · refine w_iconst ta_120 rfl ?_
        refine w_goto ta_120 rfl ?_
        refine w_iconst ta_120 rfl ?_
        refine w_cV [_, _, _] _ ta_120 rfl rfl rfl mt_111 rfl rfl rfl rfl (Nat.le_of_ble_eq_true rfl) (fun _ => rfl) rfl (cm_requires _ Z1 _ 4 (by decide) (by omega) (by omega)) ?_
        rintro Z2 hZ2
        rcases hz1 with ⟨w4, e1⟩ | ⟨w4, rfl⟩
        · obtain ⟨-, e2⟩ := hZ2.resolve_left (fun q => by have := q.1.2; omega)
          have eS : spL (N 86) (N 80 7) p dr ch md = (2, tS (N 86) (N 80 7) p, p, dr, ch, md) := by unfold spL; rw [if_neg k4, if_neg k3, if_pos (hw.symm.trans w4)]
          rw [eS, e2]
          refine (lp_rl46f D Z1 (by omega) (by omega) w).imp ?_
          rintro r M' ⟨hr, rfl⟩
          refine ⟨hr, LnM.fl (by rw [e1]; exact (FrR.fail _ _ _).m) rfl (by simp) (by simp) rfl ?_⟩
          rw [e1, hM.2.2.1]
          exact FlM.mk _ _ _
        · rcases hZ2 with ⟨q, e2⟩ | ⟨q, e2⟩
          · have m1 : md w = 1 := by omega
            have w0 : w ≠ 0 := fun z => by rw [z, hTd.2.2] at m1; omega
            have eS : spL (N 86) (N 80 7) p dr ch md = (4, tS (N 86) (N 80 7) p, p, dr, ch, md) := by unfold spL; rw [if_neg k4, if_neg k3, ← hw, if_neg w4, if_neg w0, if_pos m1]
            have zf : Z2 80 12 = 4 := by rw [e2, wr_s, up_n _ _ (by decide), wr_s, up_s]
            rw [eS]
            refine (lp_rl46f D Z2 (by omega) (by omega) w).imp ?_
            rintro r M' ⟨hr, rfl⟩
            refine ⟨hr, LnM.fl (by rw [e2]; exact (FrR.fail _ _ _).m) rfl (by simp) (by simp) rfl ?_⟩
            rw [e2, hM.2.2.1]
            exact FlM.mk _ _ _
          · rw [e2]
            exact lp_rl46 D N hT p p0 p1 hM dr ch hD md hTd k3 w hw w4 (by omega)
  · refine w_iconst ta_120 rfl ?_
    refine w_goto ta_120 rfl ?_
    refine w_iconst ta_120 rfl ?_
    refine w_cV [_, _, _] _ ta_120 rfl rfl rfl mt_111 rfl rfl rfl rfl (Nat.le_of_ble_eq_true rfl) (fun _ => rfl) rfl (cm_requires _ N _ 2 (by decide) (by omega) (by omega)) ?_
    rintro Z1 hZ1
    have hz1 : (w = -4 ∧ Z1 = wr (wr N 80 12 2) 80 13 (N 80 9)) ∨ (w ≠ -4 ∧ N = Z1) := hZ1.elim (fun q => Or.inl ⟨by omega, q.2⟩) (fun q => Or.inr ⟨by omega, q.2.symm⟩)
    have e87 : Z1 87 = N 87 := hz1.elim (fun q => by rw [q.2, wr_n _ _ _ (by decide), wr_n _ _ _ (by decide)]) (fun q => by rw [← q.2])
    have z12 : (w = -4 ∧ Z1 80 12 = 2) ∨ (w ≠ -4 ∧ Z1 80 12 = 0) := hz1.elim (fun q => Or.inl ⟨q.1, by rw [q.2, wr_s, up_n _ _ (by decide), wr_s, up_s]⟩) (fun q => Or.inr ⟨q.1, by rw [← q.2]; exact hf⟩)
    refine w_aload_n ta_120 rfl rfl ?_
    refine w_iload_n ta_120 rfl rfl ?_
    refine w_bipush ta_120 rfl ?_
    refine w_icmp_eq ta_120 rfl ⟨by omega, by omega⟩ ⟨by omega, by omega⟩ (fun h25 => ?_) (fun h25 => ?_)
    · refine w_iconst ta_120 rfl ?_
      refine w_goto ta_120 rfl ?_
      refine w_iconst ta_120 rfl ?_
      refine w_cV [_, _, _] _ ta_120 rfl rfl rfl mt_111 rfl rfl rfl rfl (Nat.le_of_ble_eq_true rfl) (fun _ => rfl) rfl (cm_requires _ Z1 _ 4 (by decide) (by omega) (by omega)) ?_
      rintro Z2 hZ2
      rcases hz1 with ⟨w4, e1⟩ | ⟨w4, rfl⟩
      · obtain ⟨-, e2⟩ := hZ2.resolve_left (fun q => by have := q.1.2; omega)
        have eS : spL (N 86) (N 80 7) p dr ch md = (2, tS (N 86) (N 80 7) p, p, dr, ch, md) := by unfold spL; rw [if_neg k4, if_neg k3, if_pos (hw.symm.trans w4)]
        rw [eS, e2]
        refine (lp_rl46f D Z1 (by omega) (by omega) w).imp ?_
        rintro r M' ⟨hr, rfl⟩
        refine ⟨hr, LnM.fl (by rw [e1]; exact (FrR.fail _ _ _).m) rfl (by simp) (by simp) rfl ?_⟩
        rw [e1, hM.2.2.1]
        exact FlM.mk _ _ _
      · rcases hZ2 with ⟨q, e2⟩ | ⟨q, e2⟩
        · have m1 : md w = 1 := by omega
          have w0 : w ≠ 0 := fun z => by rw [z, hTd.2.2] at m1; omega
          have eS : spL (N 86) (N 80 7) p dr ch md = (4, tS (N 86) (N 80 7) p, p, dr, ch, md) := by unfold spL; rw [if_neg k4, if_neg k3, ← hw, if_neg w4, if_neg w0, if_pos m1]
          have zf : Z2 80 12 = 4 := by rw [e2, wr_s, up_n _ _ (by decide), wr_s, up_s]
          rw [eS]
          refine (lp_rl46f D Z2 (by omega) (by omega) w).imp ?_
          rintro r M' ⟨hr, rfl⟩
          refine ⟨hr, LnM.fl (by rw [e2]; exact (FrR.fail _ _ _).m) rfl (by simp) (by simp) rfl ?_⟩
          rw [e2, hM.2.2.1]
          exact FlM.mk _ _ _
        · rw [e2]
          exact lp_rl46 D N hT p p0 p1 hM dr ch hD md hTd k3 w hw w4 (by omega)
    · refine w_aload_n ta_120 rfl rfl ?_
      refine w_getR ta_120 rfl rfl ?_
      refine w_iload_n ta_120 rfl rfl ?_
      refine w_baloadv (v := md w) ta_120 rfl rfl (by omega) (by omega) (by omega) (by rw [e87]; exact hTd.1 w (by omega) (by omega)) ?_
      refine w_if_ne ta_120 rfl ⟨by omega, by omega⟩ (fun h34 => ?_) (fun h34 => ?_)
      · refine w_iconst ta_120 rfl ?_
        refine w_iconst ta_120 rfl ?_
        refine w_cV [_, _, _] _ ta_120 rfl rfl rfl mt_111 rfl rfl rfl rfl (Nat.le_of_ble_eq_true rfl) (fun _ => rfl) rfl (cm_requires _ Z1 _ 4 (by decide) (by omega) (by omega)) ?_
        rintro Z2 hZ2
        rcases hz1 with ⟨w4, e1⟩ | ⟨w4, rfl⟩
        · obtain ⟨-, e2⟩ := hZ2.resolve_left (fun q => by have := q.1.2; omega)
          have eS : spL (N 86) (N 80 7) p dr ch md = (2, tS (N 86) (N 80 7) p, p, dr, ch, md) := by unfold spL; rw [if_neg k4, if_neg k3, if_pos (hw.symm.trans w4)]
          rw [eS, e2]
          refine (lp_rl46f D Z1 (by omega) (by omega) w).imp ?_
          rintro r M' ⟨hr, rfl⟩
          refine ⟨hr, LnM.fl (by rw [e1]; exact (FrR.fail _ _ _).m) rfl (by simp) (by simp) rfl ?_⟩
          rw [e1, hM.2.2.1]
          exact FlM.mk _ _ _
        · rcases hZ2 with ⟨q, e2⟩ | ⟨q, e2⟩
          · have m1 : md w = 1 := by omega
            have w0 : w ≠ 0 := fun z => by rw [z, hTd.2.2] at m1; omega
            have eS : spL (N 86) (N 80 7) p dr ch md = (4, tS (N 86) (N 80 7) p, p, dr, ch, md) := by unfold spL; rw [if_neg k4, if_neg k3, ← hw, if_neg w4, if_neg w0, if_pos m1]
            have zf : Z2 80 12 = 4 := by rw [e2, wr_s, up_n _ _ (by decide), wr_s, up_s]
            rw [eS]
            refine (lp_rl46f D Z2 (by omega) (by omega) w).imp ?_
            rintro r M' ⟨hr, rfl⟩
            refine ⟨hr, LnM.fl (by rw [e2]; exact (FrR.fail _ _ _).m) rfl (by simp) (by simp) rfl ?_⟩
            rw [e2, hM.2.2.1]
            exact FlM.mk _ _ _
          · rw [e2]
            exact lp_rl46 D N hT p p0 p1 hM dr ch hD md hTd k3 w hw w4 (by omega)
      · refine w_iconst ta_120 rfl ?_
        refine w_goto ta_120 rfl ?_
        refine w_iconst ta_120 rfl ?_
        refine w_cV [_, _, _] _ ta_120 rfl rfl rfl mt_111 rfl rfl rfl rfl (Nat.le_of_ble_eq_true rfl) (fun _ => rfl) rfl (cm_requires _ Z1 _ 4 (by decide) (by omega) (by omega)) ?_
        rintro Z2 hZ2
        rcases hz1 with ⟨w4, e1⟩ | ⟨w4, rfl⟩
        · obtain ⟨-, e2⟩ := hZ2.resolve_left (fun q => by have := q.1.2; omega)
          have eS : spL (N 86) (N 80 7) p dr ch md = (2, tS (N 86) (N 80 7) p, p, dr, ch, md) := by unfold spL; rw [if_neg k4, if_neg k3, if_pos (hw.symm.trans w4)]
          rw [eS, e2]
          refine (lp_rl46f D Z1 (by omega) (by omega) w).imp ?_
          rintro r M' ⟨hr, rfl⟩
          refine ⟨hr, LnM.fl (by rw [e1]; exact (FrR.fail _ _ _).m) rfl (by simp) (by simp) rfl ?_⟩
          rw [e1, hM.2.2.1]
          exact FlM.mk _ _ _
        · rcases hZ2 with ⟨q, e2⟩ | ⟨q, e2⟩
          · have m1 : md w = 1 := by omega
            have w0 : w ≠ 0 := fun z => by rw [z, hTd.2.2] at m1; omega
            have eS : spL (N 86) (N 80 7) p dr ch md = (4, tS (N 86) (N 80 7) p, p, dr, ch, md) := by unfold spL; rw [if_neg k4, if_neg k3, ← hw, if_neg w4, if_neg w0, if_pos m1]
            have zf : Z2 80 12 = 4 := by rw [e2, wr_s, up_n _ _ (by decide), wr_s, up_s]
            rw [eS]
            refine (lp_rl46f D Z2 (by omega) (by omega) w).imp ?_
            rintro r M' ⟨hr, rfl⟩
            refine ⟨hr, LnM.fl (by rw [e2]; exact (FrR.fail _ _ _).m) rfl (by simp) (by simp) rfl ?_⟩
            rw [e2, hM.2.2.1]
            exact FlM.mk _ _ _
          · rw [e2]
            exact lp_rl46 D N hT p p0 p1 hM dr ch hD md hTd k3 w hw w4 (by omega)
