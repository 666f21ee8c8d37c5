/-! the class reads lines -/
def wz (c : Int) : Int := if c = 0 then 1 else c
def lcZ (t : Int → Int) (s e : Int) : Int := if isW t s e wG = true then 0 else if isW t s e wC = true then 1 else if isW t s e wF = true then 2 else if isW t s e wR = true then 3 else if isW t s e wS = true then 4 else 5
theorem lcZ_ln (t : Int → Int) (s e : Int) : (lcZ t s e = 5 ∧ lnZ t s e = -4) ∨ (lcZ t s e = 1 ∧ lnZ t s e = 0) ∨ ((lcZ t s e = 0 ∨ lcZ t s e = 2 ∨ lcZ t s e = 3 ∨ lcZ t s e = 4) ∧ lnZ t s e = wz (lcZ t s e)) := by
  unfold lcZ lnZ wz
  cases isW t s e wG <;> cases isW t s e wC <;> cases isW t s e wF <;> cases isW t s e wR <;> cases isW t s e wS <;> decide
theorem loZ_b (w : Int) : 0 ≤ loZ w ∧ loZ w ≤ 2 := by
  unfold loZ
  repeat' split
  all_goals omega
theorem hiW_b (w : Int) : 5 ≤ hiW w ∧ hiW w ≤ 999 := by
  unfold hiW
  repeat' split
  all_goals omega
def DfC (N : Mem) (dr ch : Int → Int) : Prop := (∀ j, 0 ≤ j → j < 5 → N 8 (4 + j) = dr j) ∧ (∀ i, 0 ≤ i → i < dr 0 → N 9 i = ch i ∧ N 10 i = ch i) ∧ DrI dr ch
def mtV (md : Int → Int) : Int := md 1 + 4 * md 2 + 8 * md 3 + 16 * md 4
def RdC (N : Mem) (p : Int) (dr ch md : Int → Int) : Prop := N 23 6 = p ∧ 0 ≤ p ∧ p ≤ N 1 1 ∧ N 23 2 = 0 ∧ N 23 8 = mtV md ∧ (∀ j, md j = 0 ∨ md j = 1) ∧ DfC N dr ch
def FlC (M' : Mem) (S : Rs) : Prop := 1 ≤ S.1 ∧ S.1 ≤ 5 ∧ M' 23 2 = S.1 ∧ M' 23 3 = S.2.1
def FrL (N M' : Mem) : Prop := ∀ c, c < 8 ∨ (11 < c ∧ c ≠ 23) → M' c = N c
def LnP (N M' : Mem) (v : Int) (S : Rs) : Prop := FrL N M' ∧ ((S.1 = 0 ∧ v = 1 ∧ RdC M' S.2.2.1 S.2.2.2.1 S.2.2.2.2.1 S.2.2.2.2.2) ∨ (S.1 = -1 ∧ v = 0 ∧ M' 23 2 = 0 ∧ DfC M' S.2.2.2.1 S.2.2.2.2.1) ∨ (v = 0 ∧ FlC M' S))
theorem LnP.b {N M' : Mem} {v : Int} {S : Rs} (h : LnP N M' v S) : v = 0 ∨ v = 1 := by
  rcases h.2 with q | q | q
  · exact Or.inr q.2.1
  · exact Or.inl q.2.1
  · exact Or.inl q.1
theorem DfC.of {N Z : Mem} {dr ch : Int → Int} (h : DfC N dr ch) (e8 : Z 8 = N 8) (e9 : Z 9 = N 9) (e10 : Z 10 = N 10) : DfC Z dr ch := by
  unfold DfC
  rw [e8, e9, e10]
  exact h
theorem LnP.fail {N Z : Mem} {S : Rs} {x u : Int} (hF : FrL N Z) (h1 : S.1 = x) (x1 : 1 ≤ x) (x2 : x ≤ 5) (h2 : Z 23 5 = S.2.1) (hu : u = 0) : LnP N (wr (wr Z 23 2 x) 23 3 (Z 23 5)) u S := by
  refine ⟨fun c hc => ?_, Or.inr (Or.inr ⟨hu, by omega, by omega, ?_, ?_⟩)⟩
  · rw [wr_n _ _ _ (by omega), wr_n _ _ _ (by omega)]; exact hF c hc
  · rw [wr_s, up_n _ _ (by decide), wr_s, up_s]; exact h1.symm
  · rw [wr_s, up_s]; exact h2
theorem FrL.of {N Z : Mem} (h : ∀ c, c ≠ 23 → Z c = N c) : FrL N Z := fun c hc => h c (by omega)
theorem FrL.tr {N Z Z' : Mem} (h : FrL N Z) (h' : FrL Z Z') : FrL N Z' := fun c hc => (h' c hc).trans (h c hc)
/-- a setting is put -/
theorem DfC.st {N Z : Mem} {dr ch : Int → Int} {w v : Int} (h : DfC N dr ch) (w1 : 1 ≤ w) (w4 : w ≤ 4) (b : loZ w ≤ v ∧ v ≤ hiW w) (e8 : Z 8 = upI (N 8) (4 + w) v) (e9 : Z 9 = N 9) (e10 : Z 10 = N 10) : DfC Z (upI dr w v) ch := by
  obtain ⟨h1, h2, d0, d1, d2, d3, d4, d5, d6, d7, d8, d9, hc⟩ := h
  have z0 : upI dr w v 0 = dr 0 := up_n _ _ (by omega)
  refine ⟨fun j j0 j1 => ?_, fun i i0 i1 => ?_, ?_⟩
  · rw [e8]
    unfold upI
    by_cases e : j = w
    · rw [if_pos (by omega), if_pos e]
    · rw [if_neg (by omega), if_neg e]; exact h1 j j0 j1
  · rw [e9, e10]; exact h2 i i0 (by rw [← z0]; exact i1)
  · have hw : w = 1 ∨ w = 2 ∨ w = 3 ∨ w = 4 := by omega
    unfold DrI
    rw [z0]
    refine ⟨d0, d1, ?_⟩
    rcases hw with rfl | rfl | rfl | rfl
    · have b1 : (2 : Int) ≤ v := b.1
      have b2 : v ≤ 5 := b.2
      rw [up_s, up_n _ _ (by decide), up_n _ _ (by decide), up_n _ _ (by decide)]
      exact ⟨b1, b2, d4, d5, d6, d7, d8, d9, hc⟩
    · have b1 : (0 : Int) ≤ v := b.1
      have b2 : v ≤ 999 := b.2
      rw [up_s, up_n _ _ (by decide), up_n _ _ (by decide), up_n _ _ (by decide)]
      exact ⟨d2, d3, b1, b2, d6, d7, d8, d9, hc⟩
    · have b1 : (1 : Int) ≤ v := b.1
      have b2 : v ≤ 99 := b.2
      rw [up_s, up_n _ _ (by decide), up_n _ _ (by decide), up_n _ _ (by decide)]
      exact ⟨d2, d3, d4, d5, b1, b2, d8, d9, hc⟩
    · have b1 : (0 : Int) ≤ v := b.1
      have b2 : v ≤ 99 := b.2
      rw [up_s, up_n _ _ (by decide), up_n _ _ (by decide), up_n _ _ (by decide)]
      exact ⟨d2, d3, d4, d5, d6, d7, b1, b2, hc⟩
theorem DrI.ap {dr ch : Int → Int} {v : Int} (h : DrI dr ch) (n1 : dr 0 < 16) (b : 1 ≤ v ∧ v ≤ 999) : DrI (upI dr 0 (dr 0 + 1)) (upI ch (dr 0) v) := by
  obtain ⟨d0, d1, d2, d3, d4, d5, d6, d7, d8, d9, hc⟩ := h
  unfold DrI
  rw [up_s, up_n _ _ (by decide), up_n _ _ (by decide), up_n _ _ (by decide), up_n _ _ (by decide)]
  refine ⟨by omega, by omega, d2, d3, d4, d5, d6, d7, d8, d9, fun i i0 i1 => ?_⟩
  unfold upI
  by_cases e : i = dr 0
  · rw [if_pos e]; exact b
  · rw [if_neg e]; exact hc i i0 (by omega)
/-- a cell is put -/
theorem DfC.ap {N Z : Mem} {dr ch : Int → Int} {v : Int} (h : DfC N dr ch) (n1 : dr 0 < 16) (b : 1 ≤ v ∧ v ≤ 999) (hA : ApP 8 v 0 N Z) : DfC Z (upI dr 0 (dr 0 + 1)) (upI ch (dr 0) v) := by
  obtain ⟨h1, h2, hD⟩ := h
  obtain ⟨hf, a8, a9, a10, a11⟩ := hA
  have e4 : N 8 4 = dr 0 := h1 0 (by omega) (by omega)
  refine ⟨fun j j0 j1 => ?_, fun i i0 i1 => ?_, hD.ap n1 b⟩
  · rw [a8]
    unfold upI
    by_cases e : j = 0
    · rw [if_pos (by omega), if_pos e, e4]
    · rw [if_neg (by omega), if_neg e]; exact h1 j j0 j1
  · rw [up_s] at i1
    rw [show Z 9 = _ from a9, show Z 10 = _ from a10, e4]
    unfold upI
    by_cases e : i = dr 0
    · rw [if_pos e, if_pos e, if_pos e]; exact ⟨rfl, rfl⟩
    · rw [if_neg e, if_neg e, if_neg e]; exact h2 i i0 (by omega)
theorem mt_A {md : Int → Int} (hm : ∀ j, md j = 0 ∨ md j = 1) {c : Int} (hc : c = 0 ∨ c = 2 ∨ c = 3 ∨ c = 4) : (md (wz c) = 0 ∧ iAnd (mtV md) (1 * 2 ^ c.toNat) = 0 ∧ iOr (mtV md) (1 * 2 ^ c.toNat) = mtV (upI md (wz c) 1)) ∨ (md (wz c) = 1 ∧ 1 ≤ iAnd (mtV md) (1 * 2 ^ c.toNat) ∧ iAnd (mtV md) (1 * 2 ^ c.toNat) ≤ 16) := by
  unfold mtV
  rcases hc with rfl | rfl | rfl | rfl
  · rw [show wz 0 = 1 from rfl, up_s, up_n _ _ (by decide), up_n _ _ (by decide), up_n _ _ (by decide)]
    rcases hm 1 with a | a <;> rcases hm 2 with b | b <;> rcases hm 3 with c | c <;> rcases hm 4 with d | d <;> rw [a, b, c, d] <;> decide
  · rw [show wz 2 = 2 from rfl, up_s, up_n _ _ (by decide), up_n _ _ (by decide), up_n _ _ (by decide)]
    rcases hm 1 with a | a <;> rcases hm 2 with b | b <;> rcases hm 3 with c | c <;> rcases hm 4 with d | d <;> rw [a, b, c, d] <;> decide
  · rw [show wz 3 = 3 from rfl, up_s, up_n _ _ (by decide), up_n _ _ (by decide), up_n _ _ (by decide)]
    rcases hm 1 with a | a <;> rcases hm 2 with b | b <;> rcases hm 3 with c | c <;> rcases hm 4 with d | d <;> rw [a, b, c, d] <;> decide
  · rw [show wz 4 = 4 from rfl, up_s, up_n _ _ (by decide), up_n _ _ (by decide), up_n _ _ (by decide)]
    rcases hm 1 with a | a <;> rcases hm 2 with b | b <;> rcases hm 3 with c | c <;> rcases hm 4 with d | d <;> rw [a, b, c, d] <;> decide
theorem wd_r (w : List Int) (h : (w.all fun x => decide (-2147483648 ≤ x ∧ x < 2147483648)) = true) : ∀ j : Nat, inR (w.getD j 0) := by
  intro j
  rw [List.getD_eq_getElem?_getD]
  cases e : w[j]? with
  | none => exact ⟨by decide, by decide⟩
  | some x => exact of_decide_eq_true (List.all_eq_true.mp h x (List.mem_of_getElem? e))
set_option maxHeartbeats 4000000 in
set_option maxRecDepth 20000 in
theorem c_nameOf (D : Nat) (N : Mem) (l : Int) (l0 : 0 ≤ l) (l1 : l ≤ 4) : CR D 42 [.inl l] N (fun v M' => v = 100 + l.toNat ∧ M' = N) := by
  refine mk_C mt_42 rfl (Nat.le_of_ble_eq_true rfl) (L := [some _]) rfl ?_
  refine w_iload_n ta_42 rfl rfl ?_
  rcases (show l = 0 ∨ l = 1 ∨ l = 2 ∨ l = 3 ∨ (l < 0 ∨ 3 < l) by omega) with h1 | h1 | h1 | h1 | h1
  · refine w_tsw 32 ta_42 rfl ⟨by omega, by omega⟩ (by rw [h1]; rfl) ?_
    refine w_ldcS ta_42 rfl rfl ?_
    refine w_aret ta_42 rfl ?_
    exact ⟨_, rfl, by omega, rfl⟩
  · refine w_tsw 35 ta_42 rfl ⟨by omega, by omega⟩ (by rw [h1]; rfl) ?_
    refine w_ldcS ta_42 rfl rfl ?_
    refine w_aret ta_42 rfl ?_
    exact ⟨_, rfl, by omega, rfl⟩
  · refine w_tsw 38 ta_42 rfl ⟨by omega, by omega⟩ (by rw [h1]; rfl) ?_
    refine w_ldcS ta_42 rfl rfl ?_
    refine w_aret ta_42 rfl ?_
    exact ⟨_, rfl, by omega, rfl⟩
  · refine w_tsw 41 ta_42 rfl ⟨by omega, by omega⟩ (by rw [h1]; rfl) ?_
    refine w_ldcS ta_42 rfl rfl ?_
    refine w_aret ta_42 rfl ?_
    exact ⟨_, rfl, by omega, rfl⟩
  · refine w_tsw 44 ta_42 rfl ⟨by omega, by omega⟩ (if_pos h1) ?_
    refine w_ldcS ta_42 rfl rfl ?_
    refine w_aret ta_42 rfl ?_
    exact ⟨_, rfl, by omega, rfl⟩
set_option maxHeartbeats 4000000 in
set_option maxRecDepth 20000 in
theorem lp_spells (D : Nat) (N : Mem) (hT : TpI N) (i : Nat) (tx : List Int) (hi : 100 ≤ i) (hs : STT[i - 100]? = some tx) (tl : tx.length < 100) (hx : ∀ j : Nat, inR (tx.getD j 0)) (s e : Int) (s0 : 0 ≤ s) (se : s ≤ e) (e1 : e ≤ N 1 1) (hl : e - s = tx.length) : ∀ q : Int, 0 ≤ q → q ≤ tx.length → (∀ j : Nat, (j : Int) < q → N 2 (s + j) = tx.getD j 0) → Wp (D + 4) 38 (15, [some (.inr (.inr 1)), some (.inr (.inr i)), some (.inl s), some (.inl e), some (.inl q)], [], N) (fun r M' => ∃ v, r = some (.inl v) ∧ (((v = 1 ∧ isW (N 2) s e tx = true) ∨ (v = 0 ∧ isW (N 2) s e tx = false)) ∧ M' = N)) := by
  obtain ⟨l0, l1, hb⟩ := id hT
  refine loopZ _ ?_
  intro q h0 h1 ih hq
  refine w_iload ta_38 rfl rfl ?_
  refine w_aload_n ta_38 rfl rfl ?_
  refine w_slen ta_38 rfl hs (by omega) (Nat.le_of_ble_eq_true rfl) ?_
  refine w_icmp_ge ta_38 rfl ⟨by omega, by omega⟩ ⟨by omega, by omega⟩ (fun h21 => ?_) (fun h21 => ?_)
  · refine w_iconst ta_38 rfl ?_
    refine w_iret ta_38 rfl (Or.inr ⟨rfl, by omega⟩) ?_
    exact ⟨_, rfl, Or.inl ⟨rfl, isW_t.mpr ⟨hl, fun j hj => hq j (by omega)⟩⟩, rfl⟩
  · refine w_aload_n ta_38 rfl rfl ?_
    refine w_iload_n ta_38 rfl rfl ?_
    refine w_iload ta_38 rfl rfl ?_
    refine w_iadd ta_38 rfl ?_
    refine w_cI [_, _] _ ta_38 rfl rfl rfl mt_37 rfl rfl rfl rfl (Nat.le_of_ble_eq_true rfl) (fun _ => rfl) rfl (c_byteAtC _ N hT (s + q) (by omega) (by omega)) ?_
    rintro v Z ⟨hv, hz⟩
    obtain rfl := hz.symm
    have vb := hb (s + q) (by omega) (by omega)
    obtain ⟨x1, x2⟩ := hx q.toNat
    refine w_aload_n ta_38 rfl rfl ?_
    refine w_iload ta_38 rfl rfl ?_
    refine w_schr ta_38 rfl hs (by omega) (by omega) (by omega) (Nat.le_of_ble_eq_true rfl) ?_
    refine w_icmp_eq ta_38 rfl ⟨by omega, by omega⟩ ⟨by omega, by omega⟩ (fun h38 => ?_) (fun h38 => ?_)
    · refine w_iinc_4_5 ta_38 rfl rfl ?_
      refine w_goto ta_38 rfl ?_
      refine ih (by omega) (fun j hj => ?_)
      by_cases e : (j : Int) = q
      · rw [e, ← hv, h38, ← e]; rfl
      · exact hq j (by omega)
    · refine w_iconst ta_38 rfl ?_
      refine w_iret ta_38 rfl (Or.inr ⟨rfl, by omega⟩) ?_
      refine ⟨_, rfl, Or.inr ⟨rfl, Bool.eq_false_iff.mpr (fun z => h38 ?_)⟩, rfl⟩
      have y := (isW_t.mp z).2 q.toNat (by omega)
      rw [show s + ((q.toNat : Nat) : Int) = s + q by omega] at y
      rw [hv, y]
set_option maxHeartbeats 4000000 in
set_option maxRecDepth 20000 in
theorem c_spells (D : Nat) (N : Mem) (hT : TpI N) (i : Nat) (tx : List Int) (hi : 100 ≤ i) (hs : STT[i - 100]? = some tx) (tl : tx.length < 100) (hx : ∀ j : Nat, inR (tx.getD j 0)) (s e : Int) (s0 : 0 ≤ s) (se : s ≤ e) (e1 : e ≤ N 1 1) : CI (D + 4) 38 [.inr (.inr 1), .inr (.inr i), .inl s, .inl e] N (fun v M' => ((v = 1 ∧ isW (N 2) s e tx = true) ∨ (v = 0 ∧ isW (N 2) s e tx = false)) ∧ M' = N) := by
  refine mk_C mt_38 rfl (Nat.le_of_ble_eq_true rfl) (L := [some _, some _, some _, some _, none]) rfl ?_
  obtain ⟨l0, l1, hb⟩ := id hT
  refine w_iload_n ta_38 rfl rfl ?_
  refine w_iload_n ta_38 rfl rfl ?_
  refine w_isub ta_38 rfl ?_
  refine w_aload_n ta_38 rfl rfl ?_
  refine w_slen ta_38 rfl hs (by omega) (Nat.le_of_ble_eq_true rfl) ?_
  refine w_icmp_eq ta_38 rfl ⟨by omega, by omega⟩ ⟨by omega, by omega⟩ (fun h7 => ?_) (fun h7 => ?_)
  · refine w_iconst ta_38 rfl ?_
    refine w_ist_4_5 ta_38 rfl rfl ?_
    exact lp_spells D N hT i tx hi hs tl hx s e s0 se e1 h7 0 (by omega) (by omega) (fun j hj => by omega)
  · refine w_iconst ta_38 rfl ?_
    refine w_iret ta_38 rfl (Or.inr ⟨rfl, by omega⟩) ?_
    exact ⟨_, rfl, Or.inr ⟨rfl, Bool.eq_false_iff.mpr (fun z => h7 (isW_t.mp z).1)⟩, rfl⟩
set_option maxHeartbeats 4000000 in
set_option maxRecDepth 20000 in
theorem lp_lineNamed_5 (D : Nat) (N : Mem) (hT : TpI N) (s e : Int) (s0 : 0 ≤ s) (se : s ≤ e) (e1 : e ≤ N 1 1) (h5 : N 23 5 = s) (h6 : N 23 6 = e) : Wp (D + 5) 41 (2, [some (.inr (.inr 23)), some (.inl 5)], [], N) (fun r M' => ∃ v, r = some (.inl v) ∧ v = (5) ∧ M' = N) := by
  obtain ⟨l0, l1, hb⟩ := id hT
  refine w_iload_n ta_41 rfl rfl ?_
  refine w_iconst ta_41 rfl ?_
  refine w_icmp_ge ta_41 rfl ⟨by omega, by omega⟩ ⟨by omega, by omega⟩ (fun h4 => ?_) (fun h4 => ?_)
  · refine w_iconst ta_41 rfl ?_
    refine w_iret ta_41 rfl (Or.inl rfl) ?_
    exact ⟨_, rfl, rfl, rfl⟩
  · exfalso; omega
set_option maxHeartbeats 4000000 in
set_option maxRecDepth 20000 in
theorem lp_lineNamed_4 (D : Nat) (N : Mem) (hT : TpI N) (s e : Int) (s0 : 0 ≤ s) (se : s ≤ e) (e1 : e ≤ N 1 1) (h5 : N 23 5 = s) (h6 : N 23 6 = e) : Wp (D + 5) 41 (2, [some (.inr (.inr 23)), some (.inl 4)], [], N) (fun r M' => ∃ v, r = some (.inl v) ∧ v = (if isW (N 2) s e wS = true then 4 else 5) ∧ M' = N) := by
  obtain ⟨l0, l1, hb⟩ := id hT
  refine w_iload_n ta_41 rfl rfl ?_
  refine w_iconst ta_41 rfl ?_
  refine w_icmp_ge ta_41 rfl ⟨by omega, by omega⟩ ⟨by omega, by omega⟩ (fun h4 => ?_) (fun h4 => ?_)
  · exfalso; omega
  · refine w_aload_n ta_41 rfl rfl ?_
    refine w_getR ta_41 rfl rfl ?_
    refine w_iload_n ta_41 rfl rfl ?_
    refine w_cR [_] _ ta_41 rfl rfl rfl mt_42 rfl rfl rfl rfl (Nat.le_of_ble_eq_true rfl) (fun q => by cases q) rfl (c_nameOf _ N 4 (by decide) (by decide)) ?_
    rintro v Z ⟨hv, hz⟩
    obtain rfl := hz.symm
    obtain rfl := hv
    refine w_aload_n ta_41 rfl rfl ?_
    refine w_getIv 5 (v := s) ta_41 rfl rfl rfl h5 ?_
    refine w_aload_n ta_41 rfl rfl ?_
    refine w_getIv 6 (v := e) ta_41 rfl rfl rfl h6 ?_
    refine w_cI [_, _, _, _] _ ta_41 rfl rfl rfl mt_38 rfl rfl rfl rfl (Nat.le_of_ble_eq_true rfl) (fun _ => rfl) rfl (c_spells _ N hT (100 + (4 : Int).toNat) wS (by decide) rfl (by decide) (wd_r _ (by decide)) s e s0 se e1) ?_
    rintro u Z ⟨hu, hz⟩
    obtain rfl := hz.symm
    refine w_if_eq ta_41 rfl ⟨by omega, by omega⟩ (fun h26 => ?_) (fun h26 => ?_)
    · refine w_iinc_1_2 ta_41 rfl rfl ?_
      refine w_goto ta_41 rfl ?_
      have e0 : isW (N 2) s e wS = false := (hu.resolve_left (fun q => by omega)).2
      rw [e0]
      exact lp_lineNamed_5 D N hT s e s0 se e1 h5 h6
    · refine w_iload_n ta_41 rfl rfl ?_
      refine w_iret ta_41 rfl (Or.inl rfl) ?_
      have e0 : isW (N 2) s e wS = true := (hu.resolve_right (fun q => by omega)).2
      exact ⟨_, rfl, by rw [e0]; rfl, rfl⟩
set_option maxHeartbeats 4000000 in
set_option maxRecDepth 20000 in
theorem lp_lineNamed_3 (D : Nat) (N : Mem) (hT : TpI N) (s e : Int) (s0 : 0 ≤ s) (se : s ≤ e) (e1 : e ≤ N 1 1) (h5 : N 23 5 = s) (h6 : N 23 6 = e) : Wp (D + 5) 41 (2, [some (.inr (.inr 23)), some (.inl 3)], [], N) (fun r M' => ∃ v, r = some (.inl v) ∧ v = (if isW (N 2) s e wR = true then 3 else if isW (N 2) s e wS = true then 4 else 5) ∧ M' = N) := by
  obtain ⟨l0, l1, hb⟩ := id hT
  refine w_iload_n ta_41 rfl rfl ?_
  refine w_iconst ta_41 rfl ?_
  refine w_icmp_ge ta_41 rfl ⟨by omega, by omega⟩ ⟨by omega, by omega⟩ (fun h4 => ?_) (fun h4 => ?_)
  · exfalso; omega
  · refine w_aload_n ta_41 rfl rfl ?_
    refine w_getR ta_41 rfl rfl ?_
    refine w_iload_n ta_41 rfl rfl ?_
    refine w_cR [_] _ ta_41 rfl rfl rfl mt_42 rfl rfl rfl rfl (Nat.le_of_ble_eq_true rfl) (fun q => by cases q) rfl (c_nameOf _ N 3 (by decide) (by decide)) ?_
    rintro v Z ⟨hv, hz⟩
    obtain rfl := hz.symm
    obtain rfl := hv
    refine w_aload_n ta_41 rfl rfl ?_
    refine w_getIv 5 (v := s) ta_41 rfl rfl rfl h5 ?_
    refine w_aload_n ta_41 rfl rfl ?_
    refine w_getIv 6 (v := e) ta_41 rfl rfl rfl h6 ?_
    refine w_cI [_, _, _, _] _ ta_41 rfl rfl rfl mt_38 rfl rfl rfl rfl (Nat.le_of_ble_eq_true rfl) (fun _ => rfl) rfl (c_spells _ N hT (100 + (3 : Int).toNat) wR (by decide) rfl (by decide) (wd_r _ (by decide)) s e s0 se e1) ?_
    rintro u Z ⟨hu, hz⟩
    obtain rfl := hz.symm
    refine w_if_eq ta_41 rfl ⟨by omega, by omega⟩ (fun h26 => ?_) (fun h26 => ?_)
    · refine w_iinc_1_2 ta_41 rfl rfl ?_
      refine w_goto ta_41 rfl ?_
      have e0 : isW (N 2) s e wR = false := (hu.resolve_left (fun q => by omega)).2
      rw [e0]
      exact lp_lineNamed_4 D N hT s e s0 se e1 h5 h6
    · refine w_iload_n ta_41 rfl rfl ?_
      refine w_iret ta_41 rfl (Or.inl rfl) ?_
      have e0 : isW (N 2) s e wR = true := (hu.resolve_right (fun q => by omega)).2
      exact ⟨_, rfl, by rw [e0]; rfl, rfl⟩
set_option maxHeartbeats 4000000 in
set_option maxRecDepth 20000 in
theorem lp_lineNamed_2 (D : Nat) (N : Mem) (hT : TpI N) (s e : Int) (s0 : 0 ≤ s) (se : s ≤ e) (e1 : e ≤ N 1 1) (h5 : N 23 5 = s) (h6 : N 23 6 = e) : Wp (D + 5) 41 (2, [some (.inr (.inr 23)), some (.inl 2)], [], N) (fun r M' => ∃ v, r = some (.inl v) ∧ v = (if isW (N 2) s e wF = true then 2 else if isW (N 2) s e wR = true then 3 else if isW (N 2) s e wS = true then 4 else 5) ∧ M' = N) := by
  obtain ⟨l0, l1, hb⟩ := id hT
  refine w_iload_n ta_41 rfl rfl ?_
  refine w_iconst ta_41 rfl ?_
  refine w_icmp_ge ta_41 rfl ⟨by omega, by omega⟩ ⟨by omega, by omega⟩ (fun h4 => ?_) (fun h4 => ?_)
  · exfalso; omega
  · refine w_aload_n ta_41 rfl rfl ?_
    refine w_getR ta_41 rfl rfl ?_
    refine w_iload_n ta_41 rfl rfl ?_
    refine w_cR [_] _ ta_41 rfl rfl rfl mt_42 rfl rfl rfl rfl (Nat.le_of_ble_eq_true rfl) (fun q => by cases q) rfl (c_nameOf _ N 2 (by decide) (by decide)) ?_
    rintro v Z ⟨hv, hz⟩
    obtain rfl := hz.symm
    obtain rfl := hv
    refine w_aload_n ta_41 rfl rfl ?_
    refine w_getIv 5 (v := s) ta_41 rfl rfl rfl h5 ?_
    refine w_aload_n ta_41 rfl rfl ?_
    refine w_getIv 6 (v := e) ta_41 rfl rfl rfl h6 ?_
    refine w_cI [_, _, _, _] _ ta_41 rfl rfl rfl mt_38 rfl rfl rfl rfl (Nat.le_of_ble_eq_true rfl) (fun _ => rfl) rfl (c_spells _ N hT (100 + (2 : Int).toNat) wF (by decide) rfl (by decide) (wd_r _ (by decide)) s e s0 se e1) ?_
    rintro u Z ⟨hu, hz⟩
    obtain rfl := hz.symm
    refine w_if_eq ta_41 rfl ⟨by omega, by omega⟩ (fun h26 => ?_) (fun h26 => ?_)
    · refine w_iinc_1_2 ta_41 rfl rfl ?_
      refine w_goto ta_41 rfl ?_
      have e0 : isW (N 2) s e wF = false := (hu.resolve_left (fun q => by omega)).2
      rw [e0]
      exact lp_lineNamed_3 D N hT s e s0 se e1 h5 h6
    · refine w_iload_n ta_41 rfl rfl ?_
      refine w_iret ta_41 rfl (Or.inl rfl) ?_
      have e0 : isW (N 2) s e wF = true := (hu.resolve_right (fun q => by omega)).2
      exact ⟨_, rfl, by rw [e0]; rfl, rfl⟩
set_option maxHeartbeats 4000000 in
set_option maxRecDepth 20000 in
theorem lp_lineNamed_1 (D : Nat) (N : Mem) (hT : TpI N) (s e : Int) (s0 : 0 ≤ s) (se : s ≤ e) (e1 : e ≤ N 1 1) (h5 : N 23 5 = s) (h6 : N 23 6 = e) : Wp (D + 5) 41 (2, [some (.inr (.inr 23)), some (.inl 1)], [], N) (fun r M' => ∃ v, r = some (.inl v) ∧ v = (if isW (N 2) s e wC = true then 1 else if isW (N 2) s e wF = true then 2 else if isW (N 2) s e wR = true then 3 else if isW (N 2) s e wS = true then 4 else 5) ∧ M' = N) := by
  obtain ⟨l0, l1, hb⟩ := id hT
  refine w_iload_n ta_41 rfl rfl ?_
  refine w_iconst ta_41 rfl ?_
  refine w_icmp_ge ta_41 rfl ⟨by omega, by omega⟩ ⟨by omega, by omega⟩ (fun h4 => ?_) (fun h4 => ?_)
  · exfalso; omega
  · refine w_aload_n ta_41 rfl rfl ?_
    refine w_getR ta_41 rfl rfl ?_
    refine w_iload_n ta_41 rfl rfl ?_
    refine w_cR [_] _ ta_41 rfl rfl rfl mt_42 rfl rfl rfl rfl (Nat.le_of_ble_eq_true rfl) (fun q => by cases q) rfl (c_nameOf _ N 1 (by decide) (by decide)) ?_
    rintro v Z ⟨hv, hz⟩
    obtain rfl := hz.symm
    obtain rfl := hv
    refine w_aload_n ta_41 rfl rfl ?_
    refine w_getIv 5 (v := s) ta_41 rfl rfl rfl h5 ?_
    refine w_aload_n ta_41 rfl rfl ?_
    refine w_getIv 6 (v := e) ta_41 rfl rfl rfl h6 ?_
    refine w_cI [_, _, _, _] _ ta_41 rfl rfl rfl mt_38 rfl rfl rfl rfl (Nat.le_of_ble_eq_true rfl) (fun _ => rfl) rfl (c_spells _ N hT (100 + (1 : Int).toNat) wC (by decide) rfl (by decide) (wd_r _ (by decide)) s e s0 se e1) ?_
    rintro u Z ⟨hu, hz⟩
    obtain rfl := hz.symm
    refine w_if_eq ta_41 rfl ⟨by omega, by omega⟩ (fun h26 => ?_) (fun h26 => ?_)
    · refine w_iinc_1_2 ta_41 rfl rfl ?_
      refine w_goto ta_41 rfl ?_
      have e0 : isW (N 2) s e wC = false := (hu.resolve_left (fun q => by omega)).2
      rw [e0]
      exact lp_lineNamed_2 D N hT s e s0 se e1 h5 h6
    · refine w_iload_n ta_41 rfl rfl ?_
      refine w_iret ta_41 rfl (Or.inl rfl) ?_
      have e0 : isW (N 2) s e wC = true := (hu.resolve_right (fun q => by omega)).2
      exact ⟨_, rfl, by rw [e0]; rfl, rfl⟩
set_option maxHeartbeats 4000000 in
set_option maxRecDepth 20000 in
theorem lp_lineNamed_0 (D : Nat) (N : Mem) (hT : TpI N) (s e : Int) (s0 : 0 ≤ s) (se : s ≤ e) (e1 : e ≤ N 1 1) (h5 : N 23 5 = s) (h6 : N 23 6 = e) : Wp (D + 5) 41 (2, [some (.inr (.inr 23)), some (.inl 0)], [], N) (fun r M' => ∃ v, r = some (.inl v) ∧ v = (if isW (N 2) s e wG = true then 0 else if isW (N 2) s e wC = true then 1 else if isW (N 2) s e wF = true then 2 else if isW (N 2) s e wR = true then 3 else if isW (N 2) s e wS = true then 4 else 5) ∧ M' = N) := by
  obtain ⟨l0, l1, hb⟩ := id hT
  refine w_iload_n ta_41 rfl rfl ?_
  refine w_iconst ta_41 rfl ?_
  refine w_icmp_ge ta_41 rfl ⟨by omega, by omega⟩ ⟨by omega, by omega⟩ (fun h4 => ?_) (fun h4 => ?_)
  · exfalso; omega
  · refine w_aload_n ta_41 rfl rfl ?_
    refine w_getR ta_41 rfl rfl ?_
    refine w_iload_n ta_41 rfl rfl ?_
    refine w_cR [_] _ ta_41 rfl rfl rfl mt_42 rfl rfl rfl rfl (Nat.le_of_ble_eq_true rfl) (fun q => by cases q) rfl (c_nameOf _ N 0 (by decide) (by decide)) ?_
    rintro v Z ⟨hv, hz⟩
    obtain rfl := hz.symm
    obtain rfl := hv
    refine w_aload_n ta_41 rfl rfl ?_
    refine w_getIv 5 (v := s) ta_41 rfl rfl rfl h5 ?_
    refine w_aload_n ta_41 rfl rfl ?_
    refine w_getIv 6 (v := e) ta_41 rfl rfl rfl h6 ?_
    refine w_cI [_, _, _, _] _ ta_41 rfl rfl rfl mt_38 rfl rfl rfl rfl (Nat.le_of_ble_eq_true rfl) (fun _ => rfl) rfl (c_spells _ N hT (100 + (0 : Int).toNat) wG (by decide) rfl (by decide) (wd_r _ (by decide)) s e s0 se e1) ?_
    rintro u Z ⟨hu, hz⟩
    obtain rfl := hz.symm
    refine w_if_eq ta_41 rfl ⟨by omega, by omega⟩ (fun h26 => ?_) (fun h26 => ?_)
    · refine w_iinc_1_2 ta_41 rfl rfl ?_
      refine w_goto ta_41 rfl ?_
      have e0 : isW (N 2) s e wG = false := (hu.resolve_left (fun q => by omega)).2
      rw [e0]
      exact lp_lineNamed_1 D N hT s e s0 se e1 h5 h6
    · refine w_iload_n ta_41 rfl rfl ?_
      refine w_iret ta_41 rfl (Or.inl rfl) ?_
      have e0 : isW (N 2) s e wG = true := (hu.resolve_right (fun q => by omega)).2
      exact ⟨_, rfl, by rw [e0]; rfl, rfl⟩
set_option maxHeartbeats 4000000 in
set_option maxRecDepth 20000 in
theorem c_lineNamed (D : Nat) (N : Mem) (hT : TpI N) (s e : Int) (s0 : 0 ≤ s) (se : s ≤ e) (e1 : e ≤ N 1 1) (h5 : N 23 5 = s) (h6 : N 23 6 = e) : CI (D + 5) 41 [.inr (.inr 23)] N (fun v M' => v = lcZ (N 2) s e ∧ M' = N) := by
  refine mk_C mt_41 rfl (Nat.le_of_ble_eq_true rfl) (L := [some _, none]) rfl ?_
  refine w_iconst ta_41 rfl ?_
  refine w_istn_1_2 ta_41 rfl rfl ?_
  exact lp_lineNamed_0 D N hT s e s0 se e1 h5 h6
set_option maxHeartbeats 4000000 in
set_option maxRecDepth 20000 in
theorem c_lowestOf (D : Nat) (N : Mem) (c : Int) (c0 : c = 0 ∨ c = 2 ∨ c = 3 ∨ c = 4) : CI D 44 [.inl c] N (fun v M' => v = loZ (wz c) ∧ M' = N) := by
  refine mk_C mt_44 rfl (Nat.le_of_ble_eq_true rfl) (L := [some _]) rfl ?_
  refine w_iload_n ta_44 rfl rfl ?_
  rcases (show c = 0 ∨ c = 3 ∨ (c ≠ 0 ∧ c ≠ 3) by omega) with h1 | h1 | h1
  · refine w_lsw 28 ta_44 rfl ⟨by omega, by omega⟩ (by rw [h1]; rfl) ?_
    refine w_iconst ta_44 rfl ?_
    refine w_iret ta_44 rfl (Or.inl rfl) ?_
    refine ⟨_, rfl, ?_, rfl⟩
    rcases c0 with rfl | rfl | rfl | rfl <;> first | rfl | omega
  · refine w_lsw 30 ta_44 rfl ⟨by omega, by omega⟩ (by rw [h1]; rfl) ?_
    refine w_iconst ta_44 rfl ?_
    refine w_iret ta_44 rfl (Or.inl rfl) ?_
    refine ⟨_, rfl, ?_, rfl⟩
    rcases c0 with rfl | rfl | rfl | rfl <;> first | rfl | omega
  · refine w_lsw 32 ta_44 rfl ⟨by omega, by omega⟩ (by show jmp 1 (Op.lookupswitch.offset [(0, 27), (3, 29)] 31 c) = 32; rw [Op.lookupswitch.offset_cons, if_neg (by omega), Op.lookupswitch.offset_cons, if_neg (by omega)]; rfl) ?_
    refine w_iconst ta_44 rfl ?_
    refine w_iret ta_44 rfl (Or.inl rfl) ?_
    refine ⟨_, rfl, ?_, rfl⟩
    rcases c0 with rfl | rfl | rfl | rfl <;> first | rfl | omega
set_option maxHeartbeats 4000000 in
set_option maxRecDepth 20000 in
theorem c_highestOf (D : Nat) (N : Mem) (c : Int) (c0 : c = 0 ∨ c = 2 ∨ c = 3 ∨ c = 4) : CI D 45 [.inl c] N (fun v M' => v = hiW (wz c) ∧ M' = N) := by
  refine mk_C mt_45 rfl (Nat.le_of_ble_eq_true rfl) (L := [some _]) rfl ?_
  refine w_iload_n ta_45 rfl rfl ?_
  rcases (show c = 0 ∨ c = 1 ∨ c = 2 ∨ c = 3 ∨ (c < 0 ∨ 3 < c) by omega) with h1 | h1 | h1 | h1 | h1
  · refine w_tsw 32 ta_45 rfl ⟨by omega, by omega⟩ (by rw [h1]; rfl) ?_
    refine w_iconst ta_45 rfl ?_
    refine w_iret ta_45 rfl (Or.inl rfl) ?_
    refine ⟨_, rfl, ?_, rfl⟩
    rcases c0 with rfl | rfl | rfl | rfl <;> first | rfl | omega
  · refine w_tsw 41 ta_45 rfl ⟨by omega, by omega⟩ (by rw [h1]; rfl) ?_
    refine w_bipush ta_45 rfl ?_
    refine w_iret ta_45 rfl (Or.inl rfl) ?_
    refine ⟨_, rfl, ?_, rfl⟩
    rcases c0 with rfl | rfl | rfl | rfl <;> first | rfl | omega
  · refine w_tsw 34 ta_45 rfl ⟨by omega, by omega⟩ (by rw [h1]; rfl) ?_
    refine w_sipush ta_45 rfl ?_
    refine w_iret ta_45 rfl (Or.inl rfl) ?_
    refine ⟨_, rfl, ?_, rfl⟩
    rcases c0 with rfl | rfl | rfl | rfl <;> first | rfl | omega
  · refine w_tsw 38 ta_45 rfl ⟨by omega, by omega⟩ (by rw [h1]; rfl) ?_
    refine w_bipush ta_45 rfl ?_
    refine w_iret ta_45 rfl (Or.inl rfl) ?_
    refine ⟨_, rfl, ?_, rfl⟩
    rcases c0 with rfl | rfl | rfl | rfl <;> first | rfl | omega
  · refine w_tsw 41 ta_45 rfl ⟨by omega, by omega⟩ (if_pos h1) ?_
    refine w_bipush ta_45 rfl ?_
    refine w_iret ta_45 rfl (Or.inl rfl) ?_
    refine ⟨_, rfl, ?_, rfl⟩
    rcases c0 with rfl | rfl | rfl | rfl <;> first | rfl | omega
set_option maxHeartbeats 4000000 in
set_option maxRecDepth 20000 in
theorem c_putSetting (D : Nat) (N : Mem) (c : Int) (c0 : c = 0 ∨ c = 2 ∨ c = 3 ∨ c = 4) : CV D 46 [.inr (.inr 23), .inl c] N (fun M' => M' = wr N 8 (4 + wz c) (N 23 7)) := by
  refine mk_C mt_46 rfl (Nat.le_of_ble_eq_true rfl) (L := [some _, some _]) rfl ?_
  refine w_iload_n ta_46 rfl rfl ?_
  rcases (show c = 0 ∨ c = 1 ∨ c = 2 ∨ c = 3 ∨ (c < 0 ∨ 3 < c) by omega) with h1 | h1 | h1 | h1 | h1
  · refine w_tsw 32 ta_46 rfl ⟨by omega, by omega⟩ (by rw [h1]; rfl) ?_
    refine w_aload_n ta_46 rfl rfl ?_
    refine w_getR ta_46 rfl rfl ?_
    refine w_aload_n ta_46 rfl rfl ?_
    refine w_getI 7 ta_46 rfl rfl rfl ?_
    refine w_putI 5 ta_46 rfl rfl rfl ?_
    refine w_goto ta_46 rfl ?_
    refine w_vret ta_46 rfl ?_
    refine ⟨rfl, ?_⟩
    rcases c0 with rfl | rfl | rfl | rfl <;> first | rfl | omega
  · refine w_tsw 74 ta_46 rfl ⟨by omega, by omega⟩ (by rw [h1]; rfl) ?_
    refine w_aload_n ta_46 rfl rfl ?_
    refine w_getR ta_46 rfl rfl ?_
    refine w_aload_n ta_46 rfl rfl ?_
    refine w_getI 7 ta_46 rfl rfl rfl ?_
    refine w_putI 8 ta_46 rfl rfl rfl ?_
    refine w_vret ta_46 rfl ?_
    refine ⟨rfl, ?_⟩
    rcases c0 with rfl | rfl | rfl | rfl <;> first | rfl | omega
  · refine w_tsw 46 ta_46 rfl ⟨by omega, by omega⟩ (by rw [h1]; rfl) ?_
    refine w_aload_n ta_46 rfl rfl ?_
    refine w_getR ta_46 rfl rfl ?_
    refine w_aload_n ta_46 rfl rfl ?_
    refine w_getI 7 ta_46 rfl rfl rfl ?_
    refine w_putI 6 ta_46 rfl rfl rfl ?_
    refine w_goto ta_46 rfl ?_
    refine w_vret ta_46 rfl ?_
    refine ⟨rfl, ?_⟩
    rcases c0 with rfl | rfl | rfl | rfl <;> first | rfl | omega
  · refine w_tsw 60 ta_46 rfl ⟨by omega, by omega⟩ (by rw [h1]; rfl) ?_
    refine w_aload_n ta_46 rfl rfl ?_
    refine w_getR ta_46 rfl rfl ?_
    refine w_aload_n ta_46 rfl rfl ?_
    refine w_getI 7 ta_46 rfl rfl rfl ?_
    refine w_putI 7 ta_46 rfl rfl rfl ?_
    refine w_goto ta_46 rfl ?_
    refine w_vret ta_46 rfl ?_
    refine ⟨rfl, ?_⟩
    rcases c0 with rfl | rfl | rfl | rfl <;> first | rfl | omega
  · refine w_tsw 74 ta_46 rfl ⟨by omega, by omega⟩ (if_pos h1) ?_
    refine w_aload_n ta_46 rfl rfl ?_
    refine w_getR ta_46 rfl rfl ?_
    refine w_aload_n ta_46 rfl rfl ?_
    refine w_getI 7 ta_46 rfl rfl rfl ?_
    refine w_putI 8 ta_46 rfl rfl rfl ?_
    refine w_vret ta_46 rfl ?_
    refine ⟨rfl, ?_⟩
    rcases c0 with rfl | rfl | rfl | rfl <;> first | rfl | omega
