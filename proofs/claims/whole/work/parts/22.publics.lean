/-! the class's own small methods -/
theorem c_win (D : Nat) (v a b : Int) (M : Mem) (hv : inR v) (ha : inR a) (hb : inR b) : CI D 89 [.inl v, .inl a, .inl b] M (fun r M' => ((r = 1 ∧ a ≤ v ∧ v ≤ b) ∨ (r = 0 ∧ ¬ (a ≤ v ∧ v ≤ b))) ∧ M' = M) := (c_within D v a b M hv ha hb).imp fun r M' ⟨h, q⟩ => by
  refine ⟨?_, q⟩
  by_cases e : a ≤ v ∧ v ≤ b
  · rw [if_pos e] at h
    exact Or.inl ⟨h, e⟩
  · rw [if_neg e] at h
    exact Or.inr ⟨h, e⟩
set_option maxHeartbeats 4000000 in
set_option maxRecDepth 20000 in
theorem c_isCell (D : Nat) (M : Mem) (hI : PkI 3 M) (x : Int) (hx : inR x) : CI (D + 1) 90 [.inr (.inr 0), .inl x] M (fun v M' => ((v = 1 ∧ 0 ≤ x ∧ x < M 3 4) ∨ (v = 0 ∧ ¬ (0 ≤ x ∧ x < M 3 4))) ∧ M' = M) := by
  refine mk_C mt_90 rfl (Nat.le_of_ble_eq_true rfl) (L := [some _, some _]) rfl ?_
  obtain ⟨n0, n1, k0, k1, f0, f1, r0, r1, s0, s1, hA⟩ := pkd_3 hI
  refine w_iload_n ta_90 rfl rfl ?_
  refine w_iconst ta_90 rfl ?_
  refine w_aload_n ta_90 rfl rfl ?_
  refine w_getR ta_90 rfl rfl ?_
  refine w_getI 4 ta_90 rfl rfl rfl ?_
  refine w_iconst ta_90 rfl ?_
  refine w_isub ta_90 rfl ?_
  refine w_cI [_, _, _] _ ta_90 rfl rfl rfl mt_89 rfl rfl rfl rfl (Nat.le_of_ble_eq_true rfl) (fun q => by cases q) rfl (c_win _ x _ _ M hx (by constructor <;> omega) (by constructor <;> omega)) ?_
  rintro v M2 ⟨hv, rfl⟩
  refine w_iret ta_90 rfl (Or.inr ⟨rfl, by omega⟩) ?_
  exact ⟨_, rfl, by omega, rfl⟩
set_option maxHeartbeats 4000000 in
set_option maxRecDepth 20000 in
theorem c_isGroup (D : Nat) (M : Mem) (hI : PkI 3 M) (x : Int) (hx : inR x) : CI (D + 1) 91 [.inr (.inr 0), .inl x] M (fun v M' => ((v = 1 ∧ 0 ≤ x ∧ x < M 3 5) ∨ (v = 0 ∧ ¬ (0 ≤ x ∧ x < M 3 5))) ∧ M' = M) := by
  refine mk_C mt_91 rfl (Nat.le_of_ble_eq_true rfl) (L := [some _, some _]) rfl ?_
  obtain ⟨n0, n1, k0, k1, f0, f1, r0, r1, s0, s1, hA⟩ := pkd_3 hI
  refine w_iload_n ta_91 rfl rfl ?_
  refine w_iconst ta_91 rfl ?_
  refine w_aload_n ta_91 rfl rfl ?_
  refine w_getR ta_91 rfl rfl ?_
  refine w_getI 5 ta_91 rfl rfl rfl ?_
  refine w_iconst ta_91 rfl ?_
  refine w_isub ta_91 rfl ?_
  refine w_cI [_, _, _] _ ta_91 rfl rfl rfl mt_89 rfl rfl rfl rfl (Nat.le_of_ble_eq_true rfl) (fun q => by cases q) rfl (c_win _ x _ _ M hx (by constructor <;> omega) (by constructor <;> omega)) ?_
  rintro v M2 ⟨hv, rfl⟩
  refine w_iret ta_91 rfl (Or.inr ⟨rfl, by omega⟩) ?_
  exact ⟨_, rfl, by omega, rfl⟩
set_option maxHeartbeats 4000000 in
set_option maxRecDepth 20000 in
theorem c_isWay (D : Nat) (M : Mem) (x : Int) (hx : inR x) : CI (D + 1) 92 [.inl x] M (fun v M' => ((v = 1 ∧ 0 ≤ x ∧ x < 4) ∨ (v = 0 ∧ ¬ (0 ≤ x ∧ x < 4))) ∧ M' = M) := by
  refine mk_C mt_92 rfl (Nat.le_of_ble_eq_true rfl) (L := [some _]) rfl ?_
  refine w_iload_n ta_92 rfl rfl ?_
  refine w_iconst ta_92 rfl ?_
  refine w_iconst ta_92 rfl ?_
  refine w_cI [_, _, _] _ ta_92 rfl rfl rfl mt_89 rfl rfl rfl rfl (Nat.le_of_ble_eq_true rfl) (fun q => by cases q) rfl (c_win _ x _ _ M hx (by constructor <;> omega) (by constructor <;> omega)) ?_
  rintro v M2 ⟨hv, rfl⟩
  refine w_iret ta_92 rfl (Or.inr ⟨rfl, by omega⟩) ?_
  exact ⟨_, rfl, by omega, rfl⟩
set_option maxHeartbeats 4000000 in
set_option maxRecDepth 20000 in
theorem c_isImage (D : Nat) (M : Mem) (x : Int) (hx : inR x) : CI (D + 1) 94 [.inl x] M (fun v M' => ((v = 1 ∧ 0 ≤ x ∧ x < 2) ∨ (v = 0 ∧ ¬ (0 ≤ x ∧ x < 2))) ∧ M' = M) := by
  refine mk_C mt_94 rfl (Nat.le_of_ble_eq_true rfl) (L := [some _]) rfl ?_
  refine w_iload_n ta_94 rfl rfl ?_
  refine w_iconst ta_94 rfl ?_
  refine w_iconst ta_94 rfl ?_
  refine w_cI [_, _, _] _ ta_94 rfl rfl rfl mt_89 rfl rfl rfl rfl (Nat.le_of_ble_eq_true rfl) (fun q => by cases q) rfl (c_win _ x _ _ M hx (by constructor <;> omega) (by constructor <;> omega)) ?_
  rintro v M2 ⟨hv, rfl⟩
  refine w_iret ta_94 rfl (Or.inr ⟨rfl, by omega⟩) ?_
  exact ⟨_, rfl, by omega, rfl⟩
set_option maxHeartbeats 4000000 in
set_option maxRecDepth 20000 in
theorem c_isSheet (D : Nat) (M : Mem) (x : Int) (hx : inR x) : CI (D + 1) 95 [.inl x] M (fun v M' => ((v = 1 ∧ 0 ≤ x ∧ x < 4) ∨ (v = 0 ∧ ¬ (0 ≤ x ∧ x < 4))) ∧ M' = M) := by
  refine mk_C mt_95 rfl (Nat.le_of_ble_eq_true rfl) (L := [some _]) rfl ?_
  refine w_iload_n ta_95 rfl rfl ?_
  refine w_iconst ta_95 rfl ?_
  refine w_iconst ta_95 rfl ?_
  refine w_cI [_, _, _] _ ta_95 rfl rfl rfl mt_89 rfl rfl rfl rfl (Nat.le_of_ble_eq_true rfl) (fun q => by cases q) rfl (c_win _ x _ _ M hx (by constructor <;> omega) (by constructor <;> omega)) ?_
  rintro v M2 ⟨hv, rfl⟩
  refine w_iret ta_95 rfl (Or.inr ⟨rfl, by omega⟩) ?_
  exact ⟨_, rfl, by omega, rfl⟩
set_option maxHeartbeats 4000000 in
set_option maxRecDepth 20000 in
theorem c_isLane (D : Nat) (M : Mem) (x : Int) (hx : inR x) : CI (D + 1) 96 [.inl x] M (fun v M' => ((v = 1 ∧ 0 ≤ x ∧ x < 3) ∨ (v = 0 ∧ ¬ (0 ≤ x ∧ x < 3))) ∧ M' = M) := by
  refine mk_C mt_96 rfl (Nat.le_of_ble_eq_true rfl) (L := [some _]) rfl ?_
  refine w_iload_n ta_96 rfl rfl ?_
  refine w_iconst ta_96 rfl ?_
  refine w_iconst ta_96 rfl ?_
  refine w_cI [_, _, _] _ ta_96 rfl rfl rfl mt_89 rfl rfl rfl rfl (Nat.le_of_ble_eq_true rfl) (fun q => by cases q) rfl (c_win _ x _ _ M hx (by constructor <;> omega) (by constructor <;> omega)) ?_
  rintro v M2 ⟨hv, rfl⟩
  refine w_iret ta_96 rfl (Or.inr ⟨rfl, by omega⟩) ?_
  exact ⟨_, rfl, by omega, rfl⟩
set_option maxHeartbeats 4000000 in
set_option maxRecDepth 20000 in
theorem c_wayIsOpen (D : Nat) (M : Mem) (hI : PkI 3 M) (x : Int) (hx : inR x) : CI D 93 [.inr (.inr 0), .inl x] M (fun v M' => ((v = 1 ∧ (x ≠ 3 ∨ M 3 4 ≤ 9)) ∨ (v = 0 ∧ x = 3 ∧ 9 < M 3 4)) ∧ M' = M) := by
  refine mk_C mt_93 rfl (Nat.le_of_ble_eq_true rfl) (L := [some _, some _]) rfl ?_
  obtain ⟨n0, n1, k0, k1, f0, f1, r0, r1, s0, s1, hA⟩ := pkd_3 hI
  obtain ⟨x0, x1⟩ := id hx
  refine w_iload_n ta_93 rfl rfl ?_
  refine w_iconst ta_93 rfl ?_
  refine w_icmp_ne ta_93 rfl ⟨by omega, by omega⟩ ⟨by omega, by omega⟩ (fun h2 => ?_) (fun h2 => ?_)
  · refine w_iconst ta_93 rfl ?_
    refine w_goto ta_93 rfl ?_
    refine w_iret ta_93 rfl (Or.inr ⟨rfl, by omega⟩) ?_
    exact ⟨_, rfl, by omega, rfl⟩
  · refine w_aload_n ta_93 rfl rfl ?_
    refine w_getR ta_93 rfl rfl ?_
    refine w_getI 4 ta_93 rfl rfl rfl ?_
    refine w_bipush ta_93 rfl ?_
    refine w_icmp_gt ta_93 rfl ⟨by omega, by omega⟩ ⟨by omega, by omega⟩ (fun h14 => ?_) (fun h14 => ?_)
    · refine w_iconst ta_93 rfl ?_
      refine w_iret ta_93 rfl (Or.inr ⟨rfl, by omega⟩) ?_
      exact ⟨_, rfl, by omega, rfl⟩
    · refine w_iconst ta_93 rfl ?_
      refine w_goto ta_93 rfl ?_
      refine w_iret ta_93 rfl (Or.inr ⟨rfl, by omega⟩) ?_
      exact ⟨_, rfl, by omega, rfl⟩
set_option maxHeartbeats 4000000 in
set_option maxRecDepth 20000 in
theorem c_fault (D : Nat) (M : Mem) : CI D 61 [.inr (.inr 0)] M (fun v M' => v = M 0 8 ∧ M' = M) := by
  refine mk_C mt_61 rfl (Nat.le_of_ble_eq_true rfl) (L := [some _]) rfl ?_
  refine w_aload_n ta_61 rfl rfl ?_
  refine w_getI 8 ta_61 rfl rfl rfl ?_
  refine w_iret ta_61 rfl (Or.inl rfl) ?_
  exact ⟨_, rfl, rfl, rfl⟩
set_option maxHeartbeats 4000000 in
set_option maxRecDepth 20000 in
theorem c_torn (D : Nat) (M : Mem) : CI D 87 [.inr (.inr 0)] M (fun v M' => v = M 0 9 ∧ M' = M) := by
  refine mk_C mt_87 rfl (Nat.le_of_ble_eq_true rfl) (L := [some _]) rfl ?_
  refine w_aload_n ta_87 rfl rfl ?_
  refine w_getI 9 ta_87 rfl rfl rfl ?_
  refine w_iret ta_87 rfl (Or.inl rfl) ?_
  exact ⟨_, rfl, rfl, rfl⟩
/-- what is refused changes nothing -/
def OrR (p : Prop) (v r : Int) (M M' : Mem) : Prop := p ∧ v = r ∧ M' = M
set_option maxHeartbeats 4000000 in
set_option maxRecDepth 20000 in
theorem c_feed (D : Nat) (M : Mem) (x : Int) (hx : inR x) (t0 : 0 ≤ M 1 1) (t1 : M 1 1 ≤ 160) : CI (D + 1) 58 [.inr (.inr 0), .inl x] M (fun v M' => (¬ (0 ≤ x ∧ x ≤ 127) ∧ v = -1 ∧ M' = M) ∨ ((0 ≤ x ∧ x ≤ 127) ∧ M 1 1 = 160 ∧ v = -3 ∧ M' = M) ∨ ((0 ≤ x ∧ x ≤ 127) ∧ M 1 1 < 160 ∧ v = M 1 1 + 1 ∧ M' = wr (wr M 2 (M 1 1) x) 1 1 (M 1 1 + 1))) := by
  refine mk_C mt_58 rfl (Nat.le_of_ble_eq_true rfl) (L := [some _, some _]) rfl ?_
  obtain ⟨x0, x1⟩ := id hx
  refine w_iload_n ta_58 rfl rfl ?_
  refine w_iconst ta_58 rfl ?_
  refine w_bipush ta_58 rfl ?_
  refine w_cI [_, _, _] _ ta_58 rfl rfl rfl mt_89 rfl rfl rfl rfl (Nat.le_of_ble_eq_true rfl) (fun q => by cases q) rfl (c_win _ x _ _ M hx (by constructor <;> omega) (by constructor <;> omega)) ?_
  rintro v M2 ⟨hv, rfl⟩
  refine w_if_ne ta_58 rfl ⟨by omega, by omega⟩ (fun h7 => ?_) (fun h7 => ?_)
  · refine w_aload_n ta_58 rfl rfl ?_
    refine w_getR ta_58 rfl rfl ?_
    refine w_getI 1 ta_58 rfl rfl rfl ?_
    refine w_sipush ta_58 rfl ?_
    refine w_icmp_lt ta_58 rfl ⟨by omega, by omega⟩ ⟨by omega, by omega⟩ (fun h22 => ?_) (fun h22 => ?_)
    · refine w_aload_n ta_58 rfl rfl ?_
      refine w_getR ta_58 rfl rfl ?_
      refine w_getR ta_58 rfl rfl ?_
      refine w_aload_n ta_58 rfl rfl ?_
      refine w_getR ta_58 rfl rfl ?_
      refine w_getI 1 ta_58 rfl rfl rfl ?_
      refine w_iload_n ta_58 rfl rfl ?_
      refine w_i2b ta_58 rfl ?_
      rw [show x.bmod 256 = x from Int.bmod_eq_of_le (by omega) (by omega)]
      refine w_bastore ta_58 rfl rfl (by omega) (by omega) (by omega) (by omega) ?_
      refine w_aload_n ta_58 rfl rfl ?_
      refine w_getR ta_58 rfl rfl ?_
      refine w_dup ta_58 rfl rfl ?_
      refine w_getIv 1 (v := M2 1 1) ta_58 rfl rfl rfl rfl ?_
      refine w_iconst ta_58 rfl ?_
      refine w_iadd ta_58 rfl ?_
      refine w_putI 1 ta_58 rfl rfl rfl ?_
      refine w_aload_n ta_58 rfl rfl ?_
      refine w_getR ta_58 rfl rfl ?_
      refine w_getIv 1 (v := M2 1 1 + 1) ta_58 rfl rfl rfl rfl ?_
      refine w_iret ta_58 rfl (Or.inl rfl) ?_
      exact ⟨_, rfl, Or.inr (Or.inr ⟨by omega, by omega, rfl, rfl⟩)⟩
    · refine w_bipush ta_58 rfl ?_
      refine w_iret ta_58 rfl (Or.inl rfl) ?_
      exact ⟨_, rfl, Or.inr (Or.inl ⟨by omega, by omega, rfl, rfl⟩)⟩
  · refine w_iconst ta_58 rfl ?_
    refine w_iret ta_58 rfl (Or.inl rfl) ?_
    exact ⟨_, rfl, Or.inl ⟨by omega, rfl, rfl⟩⟩
set_option maxHeartbeats 4000000 in
set_option maxRecDepth 20000 in
theorem c_end (D : Nat) (M : Mem) (x : Int) (hx : inR x) (t0 : 0 ≤ M 1 1) (t1 : M 1 1 ≤ 160) : CI (D + 1) 59 [.inr (.inr 0), .inl x] M (fun v M' => (¬ (0 ≤ x ∧ x ≤ M 1 1) ∧ v = -1 ∧ M' = M) ∨ ((0 ≤ x ∧ x ≤ M 1 1) ∧ v = M 1 1 ∧ M' = wr M 1 1 x)) := by
  refine mk_C mt_59 rfl (Nat.le_of_ble_eq_true rfl) (L := [some _, some _, none]) rfl ?_
  obtain ⟨x0, x1⟩ := id hx
  refine w_iload_n ta_59 rfl rfl ?_
  refine w_iconst ta_59 rfl ?_
  refine w_aload_n ta_59 rfl rfl ?_
  refine w_getR ta_59 rfl rfl ?_
  refine w_getI 1 ta_59 rfl rfl rfl ?_
  refine w_cI [_, _, _] _ ta_59 rfl rfl rfl mt_89 rfl rfl rfl rfl (Nat.le_of_ble_eq_true rfl) (fun q => by cases q) rfl (c_win _ x _ _ M hx (by constructor <;> omega) (by constructor <;> omega)) ?_
  rintro v M2 ⟨hv, rfl⟩
  refine w_if_ne ta_59 rfl ⟨by omega, by omega⟩ (fun h12 => ?_) (fun h12 => ?_)
  · refine w_aload_n ta_59 rfl rfl ?_
    refine w_getR ta_59 rfl rfl ?_
    refine w_getI 1 ta_59 rfl rfl rfl ?_
    refine w_istn_2_3 ta_59 rfl rfl ?_
    refine w_aload_n ta_59 rfl rfl ?_
    refine w_getR ta_59 rfl rfl ?_
    refine w_iload_n ta_59 rfl rfl ?_
    refine w_putI 1 ta_59 rfl rfl rfl ?_
    refine w_iload_n ta_59 rfl rfl ?_
    refine w_iret ta_59 rfl (Or.inl rfl) ?_
    exact ⟨_, rfl, Or.inr ⟨by omega, rfl, rfl⟩⟩
  · refine w_iconst ta_59 rfl ?_
    refine w_iret ta_59 rfl (Or.inl rfl) ?_
    exact ⟨_, rfl, Or.inl ⟨by omega, rfl, rfl⟩⟩
/-- only scratch cells of the class have changed -/
def Scr (M M' : Mem) : Prop := ∀ c, c < 7 ∨ (13 ≤ c ∧ c ≤ 16) ∨ (18 ≤ c ∧ c ≤ 21) ∨ c = 24 ∨ c = 25 ∨ 71 ≤ c → M' c = M c
theorem Scr.rf (M : Mem) : Scr M M := fun _ _ => rfl
theorem SmP.scr {M M' : Mem} (h : SmP 3 M M') : Scr M M' := fun c hc => h.1 c (by omega)
theorem SmPc.scr {M M' : Mem} (h : SmPc 3 M M') : Scr M M' := fun c hc => h.1 c (by omega)
/-- what rule(what) answers -/
def ruZ (w : Int) (n k fl rt sl : Int) (ch has home : Int → Int) : Int :=
  if w = 0 then n else if w = 1 then k else if w = 2 then fl else if w = 3 then rt else if w = 4 then sl else
  if w = 5 then flZ (fun g => sumG has home n g) k else if w = 6 then lsZ (fun g => sumG has home n g) k else
  if w = 7 then grZ (fun g => sumG has home n g) k - lsZ (fun g => sumG has home n g) k else
  if w = 8 then sumZ has n else if w = 9 then sumZ ch n else -1
set_option maxHeartbeats 4000000 in
set_option maxRecDepth 20000 in
theorem c_rule (D : Nat) (M : Mem) (hI : PkI 3 M) (x : Int) (hx : inR x) : CI (D + 6) 62 [.inr (.inr 0), .inl x] M (fun v M' => v = ruZ x (M 3 4) (M 3 5) (M 3 6) (M 3 7) (M 3 8) (M 4) (M 5) (M 6) ∧ Scr M M') := by
  refine mk_C mt_62 rfl (Nat.le_of_ble_eq_true rfl) (L := [some _, some _]) rfl ?_
  obtain ⟨n0, n1, k0, k1, f0, f1, r0, r1, s0, s1, hA⟩ := pkd_3 hI
  obtain ⟨x0, x1⟩ := id hx
  refine w_iload_n ta_62 rfl rfl ?_
  rcases (show x = 0 ∨ x = 1 ∨ x = 2 ∨ x = 3 ∨ x = 4 ∨ x = 5 ∨ x = 6 ∨ x = 7 ∨ x = 8 ∨ x = 9 ∨ (x < 0 ∨ 9 < x) by omega) with h1 | h1 | h1 | h1 | h1 | h1 | h1 | h1 | h1 | h1 | h1
  · refine w_tsw 56 ta_62 rfl hx (by rw [h1]; rfl) ?_
    refine w_aload_n ta_62 rfl rfl ?_
    refine w_getR ta_62 rfl rfl ?_
    refine w_getI 4 ta_62 rfl rfl rfl ?_
    refine w_iret ta_62 rfl (Or.inl rfl) ?_
    exact ⟨_, rfl, by rw [h1]; rfl, Scr.rf _⟩
  · refine w_tsw 64 ta_62 rfl hx (by rw [h1]; rfl) ?_
    refine w_aload_n ta_62 rfl rfl ?_
    refine w_getR ta_62 rfl rfl ?_
    refine w_getI 5 ta_62 rfl rfl rfl ?_
    refine w_iret ta_62 rfl (Or.inl rfl) ?_
    exact ⟨_, rfl, by rw [h1]; rfl, Scr.rf _⟩
  · refine w_tsw 72 ta_62 rfl hx (by rw [h1]; rfl) ?_
    refine w_aload_n ta_62 rfl rfl ?_
    refine w_getR ta_62 rfl rfl ?_
    refine w_getI 6 ta_62 rfl rfl rfl ?_
    refine w_iret ta_62 rfl (Or.inl rfl) ?_
    exact ⟨_, rfl, by rw [h1]; rfl, Scr.rf _⟩
  · refine w_tsw 80 ta_62 rfl hx (by rw [h1]; rfl) ?_
    refine w_aload_n ta_62 rfl rfl ?_
    refine w_getR ta_62 rfl rfl ?_
    refine w_getI 7 ta_62 rfl rfl rfl ?_
    refine w_iret ta_62 rfl (Or.inl rfl) ?_
    exact ⟨_, rfl, by rw [h1]; rfl, Scr.rf _⟩
  · refine w_tsw 88 ta_62 rfl hx (by rw [h1]; rfl) ?_
    refine w_aload_n ta_62 rfl rfl ?_
    refine w_getR ta_62 rfl rfl ?_
    refine w_getI 8 ta_62 rfl rfl rfl ?_
    refine w_iret ta_62 rfl (Or.inl rfl) ?_
    exact ⟨_, rfl, by rw [h1]; rfl, Scr.rf _⟩
  · refine w_tsw 96 ta_62 rfl hx (by rw [h1]; rfl) ?_
    refine w_aload_n ta_62 rfl rfl ?_
    refine w_getR ta_62 rfl rfl ?_
    refine w_cI [_] _ ta_62 rfl rfl rfl mt_18 rfl rfl rfl rfl (Nat.le_of_ble_eq_true rfl) (fun _ => rfl) rfl (c_weakest_3 _ M hI) ?_
    rintro v M2 ⟨rfl, hS⟩
    refine w_iret ta_62 rfl (Or.inl rfl) ?_
    exact ⟨_, rfl, by rw [h1]; rfl, hS.scr⟩
  · refine w_tsw 104 ta_62 rfl hx (by rw [h1]; rfl) ?_
    refine w_aload_n ta_62 rfl rfl ?_
    refine w_getR ta_62 rfl rfl ?_
    refine w_cI [_] _ ta_62 rfl rfl rfl mt_19 rfl rfl rfl rfl (Nat.le_of_ble_eq_true rfl) (fun _ => rfl) rfl (c_leastSum_3 _ M hI) ?_
    rintro v M2 ⟨rfl, hS⟩
    refine w_iret ta_62 rfl (Or.inl rfl) ?_
    exact ⟨_, rfl, by rw [h1]; rfl, hS.scr⟩
  · refine w_tsw 112 ta_62 rfl hx (by rw [h1]; rfl) ?_
    refine w_aload_n ta_62 rfl rfl ?_
    refine w_getR ta_62 rfl rfl ?_
    refine w_cI [_] _ ta_62 rfl rfl rfl mt_21 rfl rfl rfl rfl (Nat.le_of_ble_eq_true rfl) (fun _ => rfl) rfl (c_spread_3 _ M hI) ?_
    rintro v M2 ⟨rfl, hS⟩
    refine w_iret ta_62 rfl (Or.inl rfl) ?_
    exact ⟨_, rfl, by rw [h1]; rfl, hS.scr⟩
  · refine w_tsw 120 ta_62 rfl hx (by rw [h1]; rfl) ?_
    refine w_aload_n ta_62 rfl rfl ?_
    refine w_getR ta_62 rfl rfl ?_
    refine w_getR ta_62 rfl rfl ?_
    refine w_aload_n ta_62 rfl rfl ?_
    refine w_getR ta_62 rfl rfl ?_
    refine w_getI 4 ta_62 rfl rfl rfl ?_
    refine w_cI [_, _] _ ta_62 rfl rfl rfl mt_101 rfl rfl rfl rfl (Nat.le_of_ble_eq_true rfl) (fun q => by cases q) rfl (c_total _ 5 16 (M 3 4) M rfl (by decide) n0 (by omega)) ?_
    rintro v M2 ⟨rfl, rfl⟩
    refine w_iret ta_62 rfl (Or.inl rfl) ?_
    exact ⟨_, rfl, by rw [h1]; rfl, Scr.rf _⟩
  · refine w_tsw 138 ta_62 rfl hx (by rw [h1]; rfl) ?_
    refine w_aload_n ta_62 rfl rfl ?_
    refine w_getR ta_62 rfl rfl ?_
    refine w_getR ta_62 rfl rfl ?_
    refine w_aload_n ta_62 rfl rfl ?_
    refine w_getR ta_62 rfl rfl ?_
    refine w_getI 4 ta_62 rfl rfl rfl ?_
    refine w_cI [_, _] _ ta_62 rfl rfl rfl mt_101 rfl rfl rfl rfl (Nat.le_of_ble_eq_true rfl) (fun q => by cases q) rfl (c_total _ 4 16 (M 3 4) M rfl (by decide) n0 (by omega)) ?_
    rintro v M2 ⟨rfl, rfl⟩
    refine w_iret ta_62 rfl (Or.inl rfl) ?_
    exact ⟨_, rfl, by rw [h1]; rfl, Scr.rf _⟩
  · refine w_tsw 156 ta_62 rfl hx (if_pos h1) ?_
    refine w_iconst ta_62 rfl ?_
    refine w_iret ta_62 rfl (Or.inl rfl) ?_
    refine ⟨_, rfl, ?_, Scr.rf _⟩
    unfold ruZ
    repeat rw [if_neg (by omega)]
/-- what cell(i, what) answers -/
def ceZ (i w : Int) (n : Int) (ch has home : Int → Int) : Int :=
  if 0 ≤ i ∧ i < n then (if w = 0 then ch i else if w = 1 then has i else if w = 2 then home i else if w = 3 then rkZ ch n i else -1) else -1
set_option maxHeartbeats 4000000 in
set_option maxRecDepth 20000 in
theorem c_cell (D : Nat) (M : Mem) (hI : PkI 3 M) (x w : Int) (hx : inR x) (hw : inR w) : CI (D + 2) 63 [.inr (.inr 0), .inl x, .inl w] M (fun v M' => v = ceZ x w (M 3 4) (M 4) (M 5) (M 6) ∧ M' = M) := by
  refine mk_C mt_63 rfl (Nat.le_of_ble_eq_true rfl) (L := [some _, some _, some _]) rfl ?_
  obtain ⟨n0, n1, k0, k1, f0, f1, r0, r1, s0, s1, hA⟩ := pkd_3 hI
  obtain ⟨x0, x1⟩ := id hx
  obtain ⟨w0, w1⟩ := id hw
  refine w_aload_n ta_63 rfl rfl ?_
  refine w_iload_n ta_63 rfl rfl ?_
  refine w_cI [_, _] _ ta_63 rfl rfl rfl mt_90 rfl rfl rfl rfl (Nat.le_of_ble_eq_true rfl) (fun _ => rfl) rfl (c_isCell _ M hI x hx) ?_
  rintro v M2 ⟨hv, rfl⟩
  refine w_if_ne ta_63 rfl ⟨by omega, by omega⟩ (fun h5 => ?_) (fun h5 => ?_)
  · refine w_iload_n ta_63 rfl rfl ?_
    rcases (show w = 0 ∨ w = 1 ∨ w = 2 ∨ w = 3 ∨ (w < 0 ∨ 3 < w) by omega) with h11 | h11 | h11 | h11 | h11
    · refine w_tsw 40 ta_63 rfl hw (by rw [h11]; rfl) ?_
      refine w_aload_n ta_63 rfl rfl ?_
      refine w_getR ta_63 rfl rfl ?_
      refine w_getR ta_63 rfl rfl ?_
      refine w_iload_n ta_63 rfl rfl ?_
      refine w_iaload ta_63 rfl rfl (by omega) (by omega) (by omega) ?_
      refine w_iret ta_63 rfl (Or.inl rfl) ?_
      exact ⟨_, rfl, by rw [ceZ, if_pos (by omega), h11]; rfl, rfl⟩
    · refine w_tsw 50 ta_63 rfl hw (by rw [h11]; rfl) ?_
      refine w_aload_n ta_63 rfl rfl ?_
      refine w_getR ta_63 rfl rfl ?_
      refine w_getR ta_63 rfl rfl ?_
      refine w_iload_n ta_63 rfl rfl ?_
      refine w_iaload ta_63 rfl rfl (by omega) (by omega) (by omega) ?_
      refine w_iret ta_63 rfl (Or.inl rfl) ?_
      exact ⟨_, rfl, by rw [ceZ, if_pos (by omega), h11]; rfl, rfl⟩
    · refine w_tsw 60 ta_63 rfl hw (by rw [h11]; rfl) ?_
      refine w_aload_n ta_63 rfl rfl ?_
      refine w_getR ta_63 rfl rfl ?_
      refine w_getR ta_63 rfl rfl ?_
      refine w_iload_n ta_63 rfl rfl ?_
      refine w_iaload ta_63 rfl rfl (by omega) (by omega) (by omega) ?_
      refine w_iret ta_63 rfl (Or.inl rfl) ?_
      exact ⟨_, rfl, by rw [ceZ, if_pos (by omega), h11]; rfl, rfl⟩
    · refine w_tsw 70 ta_63 rfl hw (by rw [h11]; rfl) ?_
      refine w_aload_n ta_63 rfl rfl ?_
      refine w_getR ta_63 rfl rfl ?_
      refine w_iload_n ta_63 rfl rfl ?_
      refine w_cI [_, _] _ ta_63 rfl rfl rfl mt_23 rfl rfl rfl rfl (Nat.le_of_ble_eq_true rfl) (fun _ => rfl) rfl (c_rank _ M2 hI x (by omega) (by omega)) ?_
      rintro v2 M3 ⟨rfl, rfl⟩
      refine w_iret ta_63 rfl (Or.inl rfl) ?_
      exact ⟨_, rfl, by rw [ceZ, if_pos (by omega), h11]; rfl, rfl⟩
    · refine w_tsw 79 ta_63 rfl hw (if_pos h11) ?_
      refine w_iconst ta_63 rfl ?_
      refine w_iret ta_63 rfl (Or.inl rfl) ?_
      exact ⟨_, rfl, by rw [ceZ, if_pos (by omega), if_neg (by omega), if_neg (by omega), if_neg (by omega), if_neg (by omega)], rfl⟩
  · refine w_iconst ta_63 rfl ?_
    refine w_iret ta_63 rfl (Or.inl rfl) ?_
    exact ⟨_, rfl, by rw [ceZ, if_neg (by omega)], rfl⟩
set_option maxHeartbeats 4000000 in
set_option maxRecDepth 20000 in
theorem c_move (D : Nat) (M : Mem) (hI : PkI 3 M) (x g : Int) (hx : inR x) (hg : inR g) : CI (D + 2) 70 [.inr (.inr 0), .inl x, .inl g] M (fun v M' => (¬ ((0 ≤ x ∧ x < M 3 4) ∧ 0 ≤ g ∧ g < M 3 5) ∧ v = -1 ∧ M' = M) ∨ (((0 ≤ x ∧ x < M 3 4) ∧ 0 ≤ g ∧ g < M 3 5) ∧ v = M 6 x ∧ M' = wr M 6 x g)) := by
  refine mk_C mt_70 rfl (Nat.le_of_ble_eq_true rfl) (L := [some _, some _, some _, none]) rfl ?_
  obtain ⟨n0, n1, k0, k1, f0, f1, r0, r1, s0, s1, hA⟩ := pkd_3 hI
  refine w_aload_n ta_70 rfl rfl ?_
  refine w_iload_n ta_70 rfl rfl ?_
  refine w_cI [_, _] _ ta_70 rfl rfl rfl mt_90 rfl rfl rfl rfl (Nat.le_of_ble_eq_true rfl) (fun _ => rfl) rfl (c_isCell _ M hI x hx) ?_
  rintro v M2 ⟨hv, rfl⟩
  refine w_if_eq ta_70 rfl ⟨by omega, by omega⟩ (fun h5 => ?_) (fun h5 => ?_)
  · refine w_iconst ta_70 rfl ?_
    refine w_iret ta_70 rfl (Or.inl rfl) ?_
    exact ⟨_, rfl, Or.inl ⟨by omega, rfl, rfl⟩⟩
  · refine w_aload_n ta_70 rfl rfl ?_
    refine w_iload_n ta_70 rfl rfl ?_
    refine w_cI [_, _] _ ta_70 rfl rfl rfl mt_91 rfl rfl rfl rfl (Nat.le_of_ble_eq_true rfl) (fun _ => rfl) rfl (c_isGroup _ M2 hI g hg) ?_
    rintro v2 M3 ⟨hv2, rfl⟩
    refine w_if_ne ta_70 rfl ⟨by omega, by omega⟩ (fun h13 => ?_) (fun h13 => ?_)
    · refine w_aload_n ta_70 rfl rfl ?_
      refine w_getR ta_70 rfl rfl ?_
      refine w_getR ta_70 rfl rfl ?_
      refine w_iload_n ta_70 rfl rfl ?_
      refine w_iaload ta_70 rfl rfl (by omega) (by omega) (by omega) ?_
      refine w_istn_3_4 ta_70 rfl rfl ?_
      refine w_aload_n ta_70 rfl rfl ?_
      refine w_getR ta_70 rfl rfl ?_
      refine w_getR ta_70 rfl rfl ?_
      refine w_iload_n ta_70 rfl rfl ?_
      refine w_iload_n ta_70 rfl rfl ?_
      refine w_iastore ta_70 rfl rfl (by omega) (by omega) (by omega) ?_
      refine w_iload_n ta_70 rfl rfl ?_
      refine w_iret ta_70 rfl (Or.inl rfl) ?_
      exact ⟨_, rfl, Or.inr ⟨by omega, rfl, rfl⟩⟩
    · refine w_iconst ta_70 rfl ?_
      refine w_iret ta_70 rfl (Or.inl rfl) ?_
      exact ⟨_, rfl, Or.inl ⟨by omega, rfl, rfl⟩⟩
set_option maxHeartbeats 4000000 in
set_option maxRecDepth 20000 in
theorem c_swap (D : Nat) (M : Mem) (hI : PkI 3 M) (x y : Int) (hx : inR x) (hy : inR y) : CI (D + 6) 71 [.inr (.inr 0), .inl x, .inl y] M (fun v M' => (¬ ((0 ≤ x ∧ x < M 3 4) ∧ 0 ≤ y ∧ y < M 3 4) ∧ v = -1 ∧ M' = M) ∨ (((0 ≤ x ∧ x < M 3 4) ∧ 0 ≤ y ∧ y < M 3 4) ∧ v = (let h := upI (upI (M 6) x (M 6 y)) y (M 6 x); grZ (fun g => sumG (M 5) h (M 3 4) g) (M 3 5) - lsZ (fun g => sumG (M 5) h (M 3 4) g) (M 3 5)) ∧ SmP 3 (setC M 6 (upI (upI (M 6) x (M 6 y)) y (M 6 x))) M')) := by
  refine mk_C mt_71 rfl (Nat.le_of_ble_eq_true rfl) (L := [some _, some _, some _, none]) rfl ?_
  obtain ⟨n0, n1, k0, k1, f0, f1, r0, r1, s0, s1, hA⟩ := pkd_3 hI
  refine w_aload_n ta_71 rfl rfl ?_
  refine w_iload_n ta_71 rfl rfl ?_
  refine w_cI [_, _] _ ta_71 rfl rfl rfl mt_90 rfl rfl rfl rfl (Nat.le_of_ble_eq_true rfl) (fun _ => rfl) rfl (c_isCell _ M hI x hx) ?_
  rintro v M2 ⟨hv, rfl⟩
  refine w_if_eq ta_71 rfl ⟨by omega, by omega⟩ (fun h5 => ?_) (fun h5 => ?_)
  · refine w_iconst ta_71 rfl ?_
    refine w_iret ta_71 rfl (Or.inl rfl) ?_
    exact ⟨_, rfl, Or.inl ⟨by omega, rfl, rfl⟩⟩
  · refine w_aload_n ta_71 rfl rfl ?_
    refine w_iload_n ta_71 rfl rfl ?_
    refine w_cI [_, _] _ ta_71 rfl rfl rfl mt_90 rfl rfl rfl rfl (Nat.le_of_ble_eq_true rfl) (fun _ => rfl) rfl (c_isCell _ M2 hI y hy) ?_
    rintro v2 M3 ⟨hv2, rfl⟩
    refine w_if_ne ta_71 rfl ⟨by omega, by omega⟩ (fun h13 => ?_) (fun h13 => ?_)
    · refine w_aload_n ta_71 rfl rfl ?_
      refine w_getR ta_71 rfl rfl ?_
      refine w_getR ta_71 rfl rfl ?_
      refine w_iload_n ta_71 rfl rfl ?_
      refine w_iaload ta_71 rfl rfl (by omega) (by omega) (by omega) ?_
      refine w_istn_3_4 ta_71 rfl rfl ?_
      refine w_aload_n ta_71 rfl rfl ?_
      refine w_getR ta_71 rfl rfl ?_
      refine w_getR ta_71 rfl rfl ?_
      refine w_iload_n ta_71 rfl rfl ?_
      refine w_aload_n ta_71 rfl rfl ?_
      refine w_getR ta_71 rfl rfl ?_
      refine w_getR ta_71 rfl rfl ?_
      refine w_iload_n ta_71 rfl rfl ?_
      refine w_iaload ta_71 rfl rfl (by omega) (by omega) (by omega) ?_
      refine w_iastore ta_71 rfl rfl (by omega) (by omega) (by omega) ?_
      refine w_aload_n ta_71 rfl rfl ?_
      refine w_getR ta_71 rfl rfl ?_
      refine w_getR ta_71 rfl rfl ?_
      refine w_iload_n ta_71 rfl rfl ?_
      refine w_iload_n ta_71 rfl rfl ?_
      refine w_iastore ta_71 rfl rfl (by omega) (by omega) (by omega) ?_
      have qx := hA x (by omega) (by omega)
      have qy := hA y (by omega) (by omega)
      have em : wr (wr M3 6 x (M3 6 y)) 6 y (M3 6 x) = setC M3 6 (upI (upI (M3 6) x (M3 6 y)) y (M3 6 x)) := by rw [show wr M3 6 x (M3 6 y) = setC M3 6 (upI (M3 6) x (M3 6 y)) from rfl, wr_sc]
      rw [em]
      have hI2 : PkI 3 (setC M3 6 (upI (upI (M3 6) x (M3 6 y)) y (M3 6 x))) := by
        refine ⟨n0, n1, k0, k1, f0, f1, r0, r1, s0, s1, fun i h0 h1 => ?_⟩
        have q := hA i h0 h1
        show 1 ≤ M3 4 i ∧ M3 4 i ≤ 999 ∧ 0 ≤ M3 5 i ∧ M3 5 i ≤ 999 ∧ 0 ≤ upI (upI (M3 6) x (M3 6 y)) y (M3 6 x) i ∧ upI (upI (M3 6) x (M3 6 y)) y (M3 6 x) i < M3 3 5
        unfold upI
        split
        · omega
        · split <;> omega
      refine w_aload_n ta_71 rfl rfl ?_
      refine w_getR ta_71 rfl rfl ?_
      refine w_cI [_] _ ta_71 rfl rfl rfl mt_21 rfl rfl rfl rfl (Nat.le_of_ble_eq_true rfl) (fun _ => rfl) rfl (c_spread_3 _ _ hI2) ?_
      rintro v3 M4 ⟨hv3, hS⟩
      refine w_iret ta_71 rfl (Or.inl rfl) ?_
      exact ⟨_, rfl, Or.inr ⟨by omega, hv3, hS⟩⟩
    · refine w_iconst ta_71 rfl ?_
      refine w_iret ta_71 rfl (Or.inl rfl) ?_
      exact ⟨_, rfl, Or.inl ⟨by omega, rfl, rfl⟩⟩
set_option maxHeartbeats 4000000 in
set_option maxRecDepth 20000 in
theorem c_add (D : Nat) (M : Mem) (hI : PkI 3 M) (x : Int) (hx : inR x) : CI (D + 3) 73 [.inr (.inr 0), .inl x] M (fun v M' => (¬ (1 ≤ x ∧ x ≤ 999) ∧ v = -1 ∧ M' = M) ∨ ((1 ≤ x ∧ x ≤ 999) ∧ M 3 4 = 16 ∧ v = -3 ∧ M' = M) ∨ ((1 ≤ x ∧ x ≤ 999) ∧ M 3 4 < 16 ∧ v = M 3 4 + 1 ∧ ∃ M1, SmP 3 M M1 ∧ ApP 3 x (flZ (SG 3 M) (M 3 5)) M1 M')) := by
  refine mk_C mt_73 rfl (Nat.le_of_ble_eq_true rfl) (L := [some _, some _]) rfl ?_
  obtain ⟨n0, n1, k0, k1, f0, f1, r0, r1, s0, s1, hA⟩ := pkd_3 hI
  obtain ⟨x0, x1⟩ := id hx
  refine w_iload_n ta_73 rfl rfl ?_
  refine w_iconst ta_73 rfl ?_
  refine w_sipush ta_73 rfl ?_
  refine w_cI [_, _, _] _ ta_73 rfl rfl rfl mt_89 rfl rfl rfl rfl (Nat.le_of_ble_eq_true rfl) (fun q => by cases q) rfl (c_win _ x _ _ M hx (by constructor <;> omega) (by constructor <;> omega)) ?_
  rintro v M2 ⟨hv, rfl⟩
  refine w_if_ne ta_73 rfl ⟨by omega, by omega⟩ (fun h8 => ?_) (fun h8 => ?_)
  · refine w_aload_n ta_73 rfl rfl ?_
    refine w_getR ta_73 rfl rfl ?_
    refine w_getI 4 ta_73 rfl rfl rfl ?_
    refine w_bipush ta_73 rfl ?_
    refine w_icmp_lt ta_73 rfl ⟨by omega, by omega⟩ ⟨by omega, by omega⟩ (fun h22 => ?_) (fun h22 => ?_)
    · refine w_aload_n ta_73 rfl rfl ?_
      refine w_getR ta_73 rfl rfl ?_
      refine w_iload_n ta_73 rfl rfl ?_
      refine w_aload_n ta_73 rfl rfl ?_
      refine w_getR ta_73 rfl rfl ?_
      refine w_cI [_] _ ta_73 rfl rfl rfl mt_18 rfl rfl rfl rfl (Nat.le_of_ble_eq_true rfl) (fun _ => rfl) rfl (c_weakest_3 _ M2 hI) ?_
      rintro v2 M3 ⟨rfl, hS⟩
      have e3 : M3 3 = M2 3 := hS.1 3 (by decide)
      refine w_cV [_, _, _] _ ta_73 rfl rfl rfl mt_15 rfl rfl rfl rfl (Nat.le_of_ble_eq_true rfl) (fun _ => rfl) rfl (c_append_3 _ M3 x _ (by rw [e3]; exact n0) (by rw [e3]; omega)) ?_
      rintro M4 hP
      refine w_aload_n ta_73 rfl rfl ?_
      refine w_getR ta_73 rfl rfl ?_
      refine w_getIv 4 (v := M2 3 4 + 1) ta_73 rfl rfl rfl (by rw [hP.2.1, up_s, e3]) ?_
      refine w_iret ta_73 rfl (Or.inl rfl) ?_
      exact ⟨_, rfl, Or.inr (Or.inr ⟨by omega, by omega, rfl, M3, hS, hP⟩)⟩
    · refine w_bipush ta_73 rfl ?_
      refine w_iret ta_73 rfl (Or.inl rfl) ?_
      exact ⟨_, rfl, Or.inr (Or.inl ⟨by omega, by omega, rfl, rfl⟩)⟩
  · refine w_iconst ta_73 rfl ?_
    refine w_iret ta_73 rfl (Or.inl rfl) ?_
    exact ⟨_, rfl, Or.inl ⟨by omega, rfl, rfl⟩⟩
set_option maxHeartbeats 4000000 in
set_option maxRecDepth 20000 in
theorem c_drop (D : Nat) (M : Mem) (hI : PkI 3 M) (x : Int) (hx : inR x) : CI (D + 2) 74 [.inr (.inr 0), .inl x] M (fun v M' => (¬ (0 ≤ x ∧ x < M 3 4) ∧ v = -1 ∧ M' = M) ∨ ((0 ≤ x ∧ x < M 3 4) ∧ v = M 3 4 - 1 ∧ DrP x M M')) := by
  refine mk_C mt_74 rfl (Nat.le_of_ble_eq_true rfl) (L := [some _, some _]) rfl ?_
  obtain ⟨n0, n1, k0, k1, f0, f1, r0, r1, s0, s1, hA⟩ := pkd_3 hI
  refine w_aload_n ta_74 rfl rfl ?_
  refine w_iload_n ta_74 rfl rfl ?_
  refine w_cI [_, _] _ ta_74 rfl rfl rfl mt_90 rfl rfl rfl rfl (Nat.le_of_ble_eq_true rfl) (fun _ => rfl) rfl (c_isCell _ M hI x hx) ?_
  rintro v M2 ⟨hv, rfl⟩
  refine w_if_ne ta_74 rfl ⟨by omega, by omega⟩ (fun h5 => ?_) (fun h5 => ?_)
  · refine w_aload_n ta_74 rfl rfl ?_
    refine w_getR ta_74 rfl rfl ?_
    refine w_iload_n ta_74 rfl rfl ?_
    refine w_cV [_, _] _ ta_74 rfl rfl rfl mt_16 rfl rfl rfl rfl (Nat.le_of_ble_eq_true rfl) (fun _ => rfl) rfl (c_removeAt _ M2 x (by omega) (by omega) n1) ?_
    rintro M3 hP
    refine w_aload_n ta_74 rfl rfl ?_
    refine w_getR ta_74 rfl rfl ?_
    refine w_getIv 4 (v := M2 3 4 - 1) ta_74 rfl rfl rfl (by rw [hP.2.1, up_s]) ?_
    refine w_iret ta_74 rfl (Or.inl rfl) ?_
    exact ⟨_, rfl, Or.inr ⟨by omega, rfl, hP⟩⟩
  · refine w_iconst ta_74 rfl ?_
    refine w_iret ta_74 rfl (Or.inl rfl) ?_
    exact ⟨_, rfl, Or.inl ⟨by omega, rfl, rfl⟩⟩
set_option maxHeartbeats 4000000 in
set_option maxRecDepth 20000 in
theorem c_set (D : Nat) (M : Mem) (hI : PkI 3 M) (x w : Int) (hx : inR x) (hw : inR w) : CI (D + 2) 75 [.inr (.inr 0), .inl x, .inl w] M (fun v M' => (¬ ((0 ≤ x ∧ x < M 3 4) ∧ 1 ≤ w ∧ w ≤ 999) ∧ v = -1 ∧ M' = M) ∨ (((0 ≤ x ∧ x < M 3 4) ∧ 1 ≤ w ∧ w ≤ 999) ∧ v = M 4 x ∧ M' = wr (wr M 4 x w) 5 x w)) := by
  refine mk_C mt_75 rfl (Nat.le_of_ble_eq_true rfl) (L := [some _, some _, some _, none]) rfl ?_
  obtain ⟨n0, n1, k0, k1, f0, f1, r0, r1, s0, s1, hA⟩ := pkd_3 hI
  refine w_aload_n ta_75 rfl rfl ?_
  refine w_iload_n ta_75 rfl rfl ?_
  refine w_cI [_, _] _ ta_75 rfl rfl rfl mt_90 rfl rfl rfl rfl (Nat.le_of_ble_eq_true rfl) (fun _ => rfl) rfl (c_isCell _ M hI x hx) ?_
  rintro v M2 ⟨hv, rfl⟩
  refine w_if_eq ta_75 rfl ⟨by omega, by omega⟩ (fun h5 => ?_) (fun h5 => ?_)
  · refine w_iconst ta_75 rfl ?_
    refine w_iret ta_75 rfl (Or.inl rfl) ?_
    exact ⟨_, rfl, Or.inl ⟨by omega, rfl, rfl⟩⟩
  · refine w_iload_n ta_75 rfl rfl ?_
    refine w_iconst ta_75 rfl ?_
    refine w_sipush ta_75 rfl ?_
    refine w_cI [_, _, _] _ ta_75 rfl rfl rfl mt_89 rfl rfl rfl rfl (Nat.le_of_ble_eq_true rfl) (fun q => by cases q) rfl (c_win _ w _ _ M2 hw (by constructor <;> omega) (by constructor <;> omega)) ?_
    rintro v2 M3 ⟨hv2, rfl⟩
    refine w_if_ne ta_75 rfl ⟨by omega, by omega⟩ (fun h16 => ?_) (fun h16 => ?_)
    · refine w_aload_n ta_75 rfl rfl ?_
      refine w_getR ta_75 rfl rfl ?_
      refine w_getR ta_75 rfl rfl ?_
      refine w_iload_n ta_75 rfl rfl ?_
      refine w_iaload ta_75 rfl rfl (by omega) (by omega) (by omega) ?_
      refine w_istn_3_4 ta_75 rfl rfl ?_
      refine w_aload_n ta_75 rfl rfl ?_
      refine w_getR ta_75 rfl rfl ?_
      refine w_getR ta_75 rfl rfl ?_
      refine w_iload_n ta_75 rfl rfl ?_
      refine w_iload_n ta_75 rfl rfl ?_
      refine w_iastore ta_75 rfl rfl (by omega) (by omega) (by omega) ?_
      refine w_aload_n ta_75 rfl rfl ?_
      refine w_getR ta_75 rfl rfl ?_
      refine w_getR ta_75 rfl rfl ?_
      refine w_iload_n ta_75 rfl rfl ?_
      refine w_iload_n ta_75 rfl rfl ?_
      refine w_iastore ta_75 rfl rfl (by omega) (by omega) (by omega) ?_
      refine w_iload_n ta_75 rfl rfl ?_
      refine w_iret ta_75 rfl (Or.inl rfl) ?_
      exact ⟨_, rfl, Or.inr ⟨by omega, rfl, rfl⟩⟩
    · refine w_iconst ta_75 rfl ?_
      refine w_iret ta_75 rfl (Or.inl rfl) ?_
      exact ⟨_, rfl, Or.inl ⟨by omega, rfl, rfl⟩⟩
/-- what rate(what, v) does: the slot, its least, its most -/
def raB (w v : Int) : Prop := (w = 0 ∧ 0 ≤ v ∧ v ≤ 999) ∨ (w = 1 ∧ 1 ≤ v ∧ v ≤ 99) ∨ (w = 2 ∧ 0 ≤ v ∧ v ≤ 99)
set_option maxHeartbeats 4000000 in
set_option maxRecDepth 20000 in
theorem c_rate (D : Nat) (M : Mem) (hI : PkI 3 M) (x w : Int) (hx : inR x) (hw : inR w) : CI (D + 1) 76 [.inr (.inr 0), .inl x, .inl w] M (fun v M' => (¬ raB x w ∧ v = -1 ∧ M' = M) ∨ (raB x w ∧ v = M 3 (6 + x) ∧ M' = wr M 3 (6 + x) w)) := by
  refine mk_C mt_76 rfl (Nat.le_of_ble_eq_true rfl) (L := [some _, some _, some _, none]) rfl ?_
  obtain ⟨n0, n1, k0, k1, f0, f1, r0, r1, s0, s1, hA⟩ := pkd_3 hI
  obtain ⟨x0, x1⟩ := id hx
  refine w_iconst ta_76 rfl ?_
  refine w_istn_3_4 ta_76 rfl rfl ?_
  refine w_iload_n ta_76 rfl rfl ?_
  refine w_if_ne ta_76 rfl ⟨by omega, by omega⟩ (fun h3 => ?_) (fun h3 => ?_)
  · refine w_iload_n ta_76 rfl rfl ?_
    refine w_iconst ta_76 rfl ?_
    refine w_icmp_ne ta_76 rfl ⟨by omega, by omega⟩ ⟨by omega, by omega⟩ (fun h38 => ?_) (fun h38 => ?_)
    · refine w_iload_n ta_76 rfl rfl ?_
      refine w_iconst ta_76 rfl ?_
      refine w_icmp_ne ta_76 rfl ⟨by omega, by omega⟩ ⟨by omega, by omega⟩ (fun h72 => ?_) (fun h72 => ?_)
      · refine w_iload_n ta_76 rfl rfl ?_
        refine w_iret ta_76 rfl (Or.inl rfl) ?_
        unfold raB
        first
          | (exfalso; omega)
          | exact ⟨_, rfl, Or.inl ⟨by omega, rfl, rfl⟩⟩
          | (refine ⟨_, rfl, Or.inr ⟨by omega, ?_, ?_⟩⟩ <;> (first | rw [show x = 0 by omega] | rw [show x = 1 by omega] | rw [show x = 2 by omega]) <;> rfl)
      · refine w_iload_n ta_76 rfl rfl ?_
        refine w_iconst ta_76 rfl ?_
        refine w_bipush ta_76 rfl ?_
        refine w_cI [_, _, _] _ ta_76 rfl rfl rfl mt_89 rfl rfl rfl rfl (Nat.le_of_ble_eq_true rfl) (fun q => by cases q) rfl (c_win _ w _ _ _ hw (by constructor <;> omega) (by constructor <;> omega)) ?_
        rintro v3 M4 ⟨hv3, rfl⟩
        refine w_if_eq ta_76 rfl ⟨by omega, by omega⟩ (fun h82 => ?_) (fun h82 => ?_)
        · refine w_iload_n ta_76 rfl rfl ?_
          refine w_iret ta_76 rfl (Or.inl rfl) ?_
          unfold raB
          first
            | (exfalso; omega)
            | exact ⟨_, rfl, Or.inl ⟨by omega, rfl, rfl⟩⟩
            | (refine ⟨_, rfl, Or.inr ⟨by omega, ?_, ?_⟩⟩ <;> (first | rw [show x = 0 by omega] | rw [show x = 1 by omega] | rw [show x = 2 by omega]) <;> rfl)
        · refine w_aload_n ta_76 rfl rfl ?_
          refine w_getR ta_76 rfl rfl ?_
          refine w_getI 8 ta_76 rfl rfl rfl ?_
          refine w_istn_3_4 ta_76 rfl rfl ?_
          refine w_aload_n ta_76 rfl rfl ?_
          refine w_getR ta_76 rfl rfl ?_
          refine w_iload_n ta_76 rfl rfl ?_
          refine w_putI 8 ta_76 rfl rfl rfl ?_
          refine w_iload_n ta_76 rfl rfl ?_
          refine w_iret ta_76 rfl (Or.inl rfl) ?_
          unfold raB
          first
            | (exfalso; omega)
            | exact ⟨_, rfl, Or.inl ⟨by omega, rfl, rfl⟩⟩
            | (refine ⟨_, rfl, Or.inr ⟨by omega, ?_, ?_⟩⟩ <;> (first | rw [show x = 0 by omega] | rw [show x = 1 by omega] | rw [show x = 2 by omega]) <;> rfl)
    · refine w_iload_n ta_76 rfl rfl ?_
      refine w_iconst ta_76 rfl ?_
      refine w_bipush ta_76 rfl ?_
      refine w_cI [_, _, _] _ ta_76 rfl rfl rfl mt_89 rfl rfl rfl rfl (Nat.le_of_ble_eq_true rfl) (fun q => by cases q) rfl (c_win _ w _ _ _ hw (by constructor <;> omega) (by constructor <;> omega)) ?_
      rintro v2 M3 ⟨hv2, rfl⟩
      refine w_if_eq ta_76 rfl ⟨by omega, by omega⟩ (fun h48 => ?_) (fun h48 => ?_)
      · refine w_iload_n ta_76 rfl rfl ?_
        refine w_iconst ta_76 rfl ?_
        refine w_icmp_ne ta_76 rfl ⟨by omega, by omega⟩ ⟨by omega, by omega⟩ (fun h72 => ?_) (fun h72 => ?_)
        · refine w_iload_n ta_76 rfl rfl ?_
          refine w_iret ta_76 rfl (Or.inl rfl) ?_
          unfold raB
          first
            | (exfalso; omega)
            | exact ⟨_, rfl, Or.inl ⟨by omega, rfl, rfl⟩⟩
            | (refine ⟨_, rfl, Or.inr ⟨by omega, ?_, ?_⟩⟩ <;> (first | rw [show x = 0 by omega] | rw [show x = 1 by omega] | rw [show x = 2 by omega]) <;> rfl)
        · refine w_iload_n ta_76 rfl rfl ?_
          refine w_iconst ta_76 rfl ?_
          refine w_bipush ta_76 rfl ?_
          refine w_cI [_, _, _] _ ta_76 rfl rfl rfl mt_89 rfl rfl rfl rfl (Nat.le_of_ble_eq_true rfl) (fun q => by cases q) rfl (c_win _ w _ _ _ hw (by constructor <;> omega) (by constructor <;> omega)) ?_
          rintro v3 M4 ⟨hv3, rfl⟩
          refine w_if_eq ta_76 rfl ⟨by omega, by omega⟩ (fun h82 => ?_) (fun h82 => ?_)
          · refine w_iload_n ta_76 rfl rfl ?_
            refine w_iret ta_76 rfl (Or.inl rfl) ?_
            unfold raB
            first
              | (exfalso; omega)
              | exact ⟨_, rfl, Or.inl ⟨by omega, rfl, rfl⟩⟩
              | (refine ⟨_, rfl, Or.inr ⟨by omega, ?_, ?_⟩⟩ <;> (first | rw [show x = 0 by omega] | rw [show x = 1 by omega] | rw [show x = 2 by omega]) <;> rfl)
          · refine w_aload_n ta_76 rfl rfl ?_
            refine w_getR ta_76 rfl rfl ?_
            refine w_getI 8 ta_76 rfl rfl rfl ?_
            refine w_istn_3_4 ta_76 rfl rfl ?_
            refine w_aload_n ta_76 rfl rfl ?_
            refine w_getR ta_76 rfl rfl ?_
            refine w_iload_n ta_76 rfl rfl ?_
            refine w_putI 8 ta_76 rfl rfl rfl ?_
            refine w_iload_n ta_76 rfl rfl ?_
            refine w_iret ta_76 rfl (Or.inl rfl) ?_
            unfold raB
            first
              | (exfalso; omega)
              | exact ⟨_, rfl, Or.inl ⟨by omega, rfl, rfl⟩⟩
              | (refine ⟨_, rfl, Or.inr ⟨by omega, ?_, ?_⟩⟩ <;> (first | rw [show x = 0 by omega] | rw [show x = 1 by omega] | rw [show x = 2 by omega]) <;> rfl)
      · refine w_aload_n ta_76 rfl rfl ?_
        refine w_getR ta_76 rfl rfl ?_
        refine w_getI 7 ta_76 rfl rfl rfl ?_
        refine w_istn_3_4 ta_76 rfl rfl ?_
        refine w_aload_n ta_76 rfl rfl ?_
        refine w_getR ta_76 rfl rfl ?_
        refine w_iload_n ta_76 rfl rfl ?_
        refine w_putI 7 ta_76 rfl rfl rfl ?_
        refine w_goto ta_76 rfl ?_
        refine w_iload_n ta_76 rfl rfl ?_
        refine w_iret ta_76 rfl (Or.inl rfl) ?_
        unfold raB
        first
          | (exfalso; omega)
          | exact ⟨_, rfl, Or.inl ⟨by omega, rfl, rfl⟩⟩
          | (refine ⟨_, rfl, Or.inr ⟨by omega, ?_, ?_⟩⟩ <;> (first | rw [show x = 0 by omega] | rw [show x = 1 by omega] | rw [show x = 2 by omega]) <;> rfl)
  · refine w_iload_n ta_76 rfl rfl ?_
    refine w_iconst ta_76 rfl ?_
    refine w_sipush ta_76 rfl ?_
    refine w_cI [_, _, _] _ ta_76 rfl rfl rfl mt_89 rfl rfl rfl rfl (Nat.le_of_ble_eq_true rfl) (fun q => by cases q) rfl (c_win _ w _ _ M hw (by constructor <;> omega) (by constructor <;> omega)) ?_
    rintro v M2 ⟨hv, rfl⟩
    refine w_if_eq ta_76 rfl ⟨by omega, by omega⟩ (fun h14 => ?_) (fun h14 => ?_)
    · refine w_iload_n ta_76 rfl rfl ?_
      refine w_iconst ta_76 rfl ?_
      refine w_icmp_ne ta_76 rfl ⟨by omega, by omega⟩ ⟨by omega, by omega⟩ (fun h38 => ?_) (fun h38 => ?_)
      · refine w_iload_n ta_76 rfl rfl ?_
        refine w_iconst ta_76 rfl ?_
        refine w_icmp_ne ta_76 rfl ⟨by omega, by omega⟩ ⟨by omega, by omega⟩ (fun h72 => ?_) (fun h72 => ?_)
        · refine w_iload_n ta_76 rfl rfl ?_
          refine w_iret ta_76 rfl (Or.inl rfl) ?_
          unfold raB
          first
            | (exfalso; omega)
            | exact ⟨_, rfl, Or.inl ⟨by omega, rfl, rfl⟩⟩
            | (refine ⟨_, rfl, Or.inr ⟨by omega, ?_, ?_⟩⟩ <;> (first | rw [show x = 0 by omega] | rw [show x = 1 by omega] | rw [show x = 2 by omega]) <;> rfl)
        · refine w_iload_n ta_76 rfl rfl ?_
          refine w_iconst ta_76 rfl ?_
          refine w_bipush ta_76 rfl ?_
          refine w_cI [_, _, _] _ ta_76 rfl rfl rfl mt_89 rfl rfl rfl rfl (Nat.le_of_ble_eq_true rfl) (fun q => by cases q) rfl (c_win _ w _ _ _ hw (by constructor <;> omega) (by constructor <;> omega)) ?_
          rintro v3 M4 ⟨hv3, rfl⟩
          refine w_if_eq ta_76 rfl ⟨by omega, by omega⟩ (fun h82 => ?_) (fun h82 => ?_)
          · refine w_iload_n ta_76 rfl rfl ?_
            refine w_iret ta_76 rfl (Or.inl rfl) ?_
            unfold raB
            first
              | (exfalso; omega)
              | exact ⟨_, rfl, Or.inl ⟨by omega, rfl, rfl⟩⟩
              | (refine ⟨_, rfl, Or.inr ⟨by omega, ?_, ?_⟩⟩ <;> (first | rw [show x = 0 by omega] | rw [show x = 1 by omega] | rw [show x = 2 by omega]) <;> rfl)
          · refine w_aload_n ta_76 rfl rfl ?_
            refine w_getR ta_76 rfl rfl ?_
            refine w_getI 8 ta_76 rfl rfl rfl ?_
            refine w_istn_3_4 ta_76 rfl rfl ?_
            refine w_aload_n ta_76 rfl rfl ?_
            refine w_getR ta_76 rfl rfl ?_
            refine w_iload_n ta_76 rfl rfl ?_
            refine w_putI 8 ta_76 rfl rfl rfl ?_
            refine w_iload_n ta_76 rfl rfl ?_
            refine w_iret ta_76 rfl (Or.inl rfl) ?_
            unfold raB
            first
              | (exfalso; omega)
              | exact ⟨_, rfl, Or.inl ⟨by omega, rfl, rfl⟩⟩
              | (refine ⟨_, rfl, Or.inr ⟨by omega, ?_, ?_⟩⟩ <;> (first | rw [show x = 0 by omega] | rw [show x = 1 by omega] | rw [show x = 2 by omega]) <;> rfl)
      · refine w_iload_n ta_76 rfl rfl ?_
        refine w_iconst ta_76 rfl ?_
        refine w_bipush ta_76 rfl ?_
        refine w_cI [_, _, _] _ ta_76 rfl rfl rfl mt_89 rfl rfl rfl rfl (Nat.le_of_ble_eq_true rfl) (fun q => by cases q) rfl (c_win _ w _ _ _ hw (by constructor <;> omega) (by constructor <;> omega)) ?_
        rintro v2 M3 ⟨hv2, rfl⟩
        refine w_if_eq ta_76 rfl ⟨by omega, by omega⟩ (fun h48 => ?_) (fun h48 => ?_)
        · refine w_iload_n ta_76 rfl rfl ?_
          refine w_iconst ta_76 rfl ?_
          refine w_icmp_ne ta_76 rfl ⟨by omega, by omega⟩ ⟨by omega, by omega⟩ (fun h72 => ?_) (fun h72 => ?_)
          · refine w_iload_n ta_76 rfl rfl ?_
            refine w_iret ta_76 rfl (Or.inl rfl) ?_
            unfold raB
            first
              | (exfalso; omega)
              | exact ⟨_, rfl, Or.inl ⟨by omega, rfl, rfl⟩⟩
              | (refine ⟨_, rfl, Or.inr ⟨by omega, ?_, ?_⟩⟩ <;> (first | rw [show x = 0 by omega] | rw [show x = 1 by omega] | rw [show x = 2 by omega]) <;> rfl)
          · refine w_iload_n ta_76 rfl rfl ?_
            refine w_iconst ta_76 rfl ?_
            refine w_bipush ta_76 rfl ?_
            refine w_cI [_, _, _] _ ta_76 rfl rfl rfl mt_89 rfl rfl rfl rfl (Nat.le_of_ble_eq_true rfl) (fun q => by cases q) rfl (c_win _ w _ _ _ hw (by constructor <;> omega) (by constructor <;> omega)) ?_
            rintro v3 M4 ⟨hv3, rfl⟩
            refine w_if_eq ta_76 rfl ⟨by omega, by omega⟩ (fun h82 => ?_) (fun h82 => ?_)
            · refine w_iload_n ta_76 rfl rfl ?_
              refine w_iret ta_76 rfl (Or.inl rfl) ?_
              unfold raB
              first
                | (exfalso; omega)
                | exact ⟨_, rfl, Or.inl ⟨by omega, rfl, rfl⟩⟩
                | (refine ⟨_, rfl, Or.inr ⟨by omega, ?_, ?_⟩⟩ <;> (first | rw [show x = 0 by omega] | rw [show x = 1 by omega] | rw [show x = 2 by omega]) <;> rfl)
            · refine w_aload_n ta_76 rfl rfl ?_
              refine w_getR ta_76 rfl rfl ?_
              refine w_getI 8 ta_76 rfl rfl rfl ?_
              refine w_istn_3_4 ta_76 rfl rfl ?_
              refine w_aload_n ta_76 rfl rfl ?_
              refine w_getR ta_76 rfl rfl ?_
              refine w_iload_n ta_76 rfl rfl ?_
              refine w_putI 8 ta_76 rfl rfl rfl ?_
              refine w_iload_n ta_76 rfl rfl ?_
              refine w_iret ta_76 rfl (Or.inl rfl) ?_
              unfold raB
              first
                | (exfalso; omega)
                | exact ⟨_, rfl, Or.inl ⟨by omega, rfl, rfl⟩⟩
                | (refine ⟨_, rfl, Or.inr ⟨by omega, ?_, ?_⟩⟩ <;> (first | rw [show x = 0 by omega] | rw [show x = 1 by omega] | rw [show x = 2 by omega]) <;> rfl)
        · refine w_aload_n ta_76 rfl rfl ?_
          refine w_getR ta_76 rfl rfl ?_
          refine w_getI 7 ta_76 rfl rfl rfl ?_
          refine w_istn_3_4 ta_76 rfl rfl ?_
          refine w_aload_n ta_76 rfl rfl ?_
          refine w_getR ta_76 rfl rfl ?_
          refine w_iload_n ta_76 rfl rfl ?_
          refine w_putI 7 ta_76 rfl rfl rfl ?_
          refine w_goto ta_76 rfl ?_
          refine w_iload_n ta_76 rfl rfl ?_
          refine w_iret ta_76 rfl (Or.inl rfl) ?_
          unfold raB
          first
            | (exfalso; omega)
            | exact ⟨_, rfl, Or.inl ⟨by omega, rfl, rfl⟩⟩
            | (refine ⟨_, rfl, Or.inr ⟨by omega, ?_, ?_⟩⟩ <;> (first | rw [show x = 0 by omega] | rw [show x = 1 by omega] | rw [show x = 2 by omega]) <;> rfl)
    · refine w_aload_n ta_76 rfl rfl ?_
      refine w_getR ta_76 rfl rfl ?_
      refine w_getI 6 ta_76 rfl rfl rfl ?_
      refine w_istn_3_4 ta_76 rfl rfl ?_
      refine w_aload_n ta_76 rfl rfl ?_
      refine w_getR ta_76 rfl rfl ?_
      refine w_iload_n ta_76 rfl rfl ?_
      refine w_putI 6 ta_76 rfl rfl rfl ?_
      refine w_goto ta_76 rfl ?_
      refine w_iload_n ta_76 rfl rfl ?_
      refine w_iret ta_76 rfl (Or.inl rfl) ?_
      unfold raB
      first
        | (exfalso; omega)
        | exact ⟨_, rfl, Or.inl ⟨by omega, rfl, rfl⟩⟩
        | (refine ⟨_, rfl, Or.inr ⟨by omega, ?_, ?_⟩⟩ <;> (first | rw [show x = 0 by omega] | rw [show x = 1 by omega] | rw [show x = 2 by omega]) <;> rfl)
set_option maxHeartbeats 4000000 in
set_option maxRecDepth 20000 in
theorem c_bleed (D : Nat) (M : Mem) (hI : PkI 3 M) (x : Int) (hx : inR x) : CI (D + 7) 78 [.inr (.inr 0), .inl x] M (fun v M' => (¬ (1 ≤ x ∧ x ≤ 200) ∧ v = -1 ∧ M' = M) ∨ ((1 ≤ x ∧ x ≤ 200) ∧ v = rtC (M 6) (M 3 4) (M 3 5) (M 3 6) (M 3 7) (M 3 8) x.toNat (M 5) ∧ TkP 3 (rtH (M 6) (M 3 4) (M 3 5) (M 3 6) (M 3 7) (M 3 8) x.toNat (M 5)) M M')) := by
  refine mk_C mt_78 rfl (Nat.le_of_ble_eq_true rfl) (L := [some _, some _]) rfl ?_
  obtain ⟨n0, n1, k0, k1, f0, f1, r0, r1, s0, s1, hA⟩ := pkd_3 hI
  refine w_iload_n ta_78 rfl rfl ?_
  refine w_iconst ta_78 rfl ?_
  refine w_sipush ta_78 rfl ?_
  refine w_cI [_, _, _] _ ta_78 rfl rfl rfl mt_89 rfl rfl rfl rfl (Nat.le_of_ble_eq_true rfl) (fun q => by cases q) rfl (c_win _ x _ _ M hx (by constructor <;> omega) (by constructor <;> omega)) ?_
  rintro v M2 ⟨hv, rfl⟩
  refine w_if_eq ta_78 rfl ⟨by omega, by omega⟩ (fun h8 => ?_) (fun h8 => ?_)
  · refine w_iconst ta_78 rfl ?_
    refine w_iret ta_78 rfl (Or.inl rfl) ?_
    first
      | exact ⟨_, rfl, Or.inr ⟨by omega, hv2, hT⟩⟩
      | exact ⟨_, rfl, Or.inl ⟨by omega, rfl, rfl⟩⟩
  · refine w_aload_n ta_78 rfl rfl ?_
    refine w_getR ta_78 rfl rfl ?_
    refine w_iload_n ta_78 rfl rfl ?_
    refine w_cI [_, _] _ ta_78 rfl rfl rfl mt_30 rfl rfl rfl rfl (Nat.le_of_ble_eq_true rfl) (fun _ => rfl) rfl (c_runTicks_3 _ M2 hI x (by omega) hx) ?_
    rintro v2 M3 ⟨hv2, hT⟩
    refine w_goto ta_78 rfl ?_
    refine w_iret ta_78 rfl (Or.inl rfl) ?_
    first
      | exact ⟨_, rfl, Or.inr ⟨by omega, hv2, hT⟩⟩
      | exact ⟨_, rfl, Or.inl ⟨by omega, rfl, rfl⟩⟩
