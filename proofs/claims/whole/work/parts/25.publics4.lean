/-! sheets and counts, for callers -/
def laV (l v : Int) : Int := if l = 0 then v.bmod 256 else if l = 1 then v.bmod 65536 else v
def whZ (l lane size f n : Int) : Int := if lane = l ∧ 0 ≤ f ∧ f < size then (if (size - f) / 2 < n then (size - f) / 2 else n) else 0
def faZ (l lane : Int) : Int := if lane = -1 then 1 else if lane = l then 2 else 3
/-- the i-th pair is good -/
def rdO (row : Int → Int) (f n k i : Int) : Prop := (0 ≤ row (f + 2 * i) ∧ row (f + 2 * i) < n) ∧ 0 ≤ row (f + 2 * i + 1) ∧ row (f + 2 * i + 1) < k
def rdF (row : Int → Int) (f : Int) (h : Int → Int) : Nat → (Int → Int)
  | 0 => h
  | i + 1 => upI (rdF row f h i) (row (f + 2 * i)) (row (f + 2 * i + 1))
theorem whZ_b {l lane size f n : Int} (n0 : 0 ≤ n) (hn : n ≤ 20) : 0 ≤ whZ l lane size f n ∧ whZ l lane size f n ≤ n ∧ (whZ l lane size f n = 0 ∨ (lane = l ∧ 0 ≤ f ∧ f + 2 * whZ l lane size f n ≤ size)) := by
  unfold whZ
  split
  · split <;> omega
  · omega
set_option maxHeartbeats 4000000 in
set_option maxRecDepth 20000 in
theorem c_sheet_x (D : Nat) (M : Mem) (x l n : Int) (hx : inR x) (hl : inR l) (hn : inR n) (h : ¬ ((0 ≤ x ∧ x < 4) ∧ (0 ≤ l ∧ l < 3) ∧ n ≤ 40 ∧ 0 ≤ n)) : CI (D + 2) 84 [.inr (.inr 0), .inl x, .inl l, .inl n] M (fun v M' => v = (if (0 ≤ x ∧ x < 4) ∧ (0 ≤ l ∧ l < 3) ∧ n ≤ 40 then -14 else -1) ∧ M' = M) := by
  refine mk_C mt_84 rfl (Nat.le_of_ble_eq_true rfl) (L := [some _, some _, some _, some _]) rfl ?_
  obtain ⟨a2, a3⟩ := id hn
  refine w_iload_n ta_84 rfl rfl ?_
  refine w_cI [_] _ ta_84 rfl rfl rfl mt_95 rfl rfl rfl rfl (Nat.le_of_ble_eq_true rfl) (fun q => by cases q) rfl (c_isSheet _ M x hx) ?_
  rintro v M2 ⟨hv, rfl⟩
  refine w_if_eq ta_84 rfl ⟨by omega, by omega⟩ (fun h4 => ?_) (fun h4 => ?_)
  · refine w_iconst ta_84 rfl ?_
    refine w_iret ta_84 rfl (Or.inl rfl) ?_
    exact ⟨_, rfl, by rw [if_neg (by omega)], rfl⟩
  · refine w_iload_n ta_84 rfl rfl ?_
    refine w_cI [_] _ ta_84 rfl rfl rfl mt_96 rfl rfl rfl rfl (Nat.le_of_ble_eq_true rfl) (fun q => by cases q) rfl (c_isLane _ M2 l hl) ?_
    rintro v2 M3 ⟨hv2, rfl⟩
    refine w_if_eq ta_84 rfl ⟨by omega, by omega⟩ (fun h11 => ?_) (fun h11 => ?_)
    · refine w_iconst ta_84 rfl ?_
      refine w_iret ta_84 rfl (Or.inl rfl) ?_
      exact ⟨_, rfl, by rw [if_neg (by omega)], rfl⟩
    · refine w_iload_n ta_84 rfl rfl ?_
      refine w_bipush ta_84 rfl ?_
      refine w_icmp_le ta_84 rfl ⟨by omega, by omega⟩ ⟨by omega, by omega⟩ (fun h17 => ?_) (fun h17 => ?_)
      · refine w_iload_n ta_84 rfl rfl ?_
        refine w_if_ge ta_84 rfl ⟨by omega, by omega⟩ (fun h23 => ?_) (fun h23 => ?_)
        · exfalso; omega
        · refine w_bipush ta_84 rfl ?_
          refine w_iret ta_84 rfl (Or.inl rfl) ?_
          exact ⟨_, rfl, by rw [if_pos (by omega)], rfl⟩
      · refine w_iconst ta_84 rfl ?_
        refine w_iret ta_84 rfl (Or.inl rfl) ?_
        exact ⟨_, rfl, by rw [if_neg (by omega)], rfl⟩
set_option maxHeartbeats 4000000 in
set_option maxRecDepth 20000 in
theorem c_lay_x (D : Nat) (M : Mem) (x i v : Int) (hx : inR x) (h : ¬ (0 ≤ x ∧ x < 4)) : CI (D + 2) 85 [.inr (.inr 0), .inl x, .inl i, .inl v] M (fun w M' => w = -1 ∧ M' = M) := by
  refine mk_C mt_85 rfl (Nat.le_of_ble_eq_true rfl) (L := [some _, some _, some _, some _, none]) rfl ?_
  refine w_iload_n ta_85 rfl rfl ?_
  refine w_cI [_] _ ta_85 rfl rfl rfl mt_95 rfl rfl rfl rfl (Nat.le_of_ble_eq_true rfl) (fun q => by cases q) rfl (c_isSheet _ M x hx) ?_
  rintro vw M2 ⟨hvw, rfl⟩
  refine w_if_ne ta_85 rfl ⟨by omega, by omega⟩ (fun h4 => ?_) (fun h4 => ?_)
  · exfalso; omega
  · refine w_iconst ta_85 rfl ?_
    refine w_iret ta_85 rfl (Or.inl rfl) ?_
    exact ⟨_, rfl, rfl, rfl⟩
set_option maxHeartbeats 4000000 in
set_option maxRecDepth 20000 in
theorem c_read_x (D : Nat) (M : Mem) (x l f n : Int) (hx : inR x) (hl : inR l) (hn : inR n) (h : ¬ ((0 ≤ x ∧ x < 4) ∧ (0 ≤ l ∧ l < 3) ∧ 0 ≤ n ∧ n ≤ 20)) : CI (D + 5) 86 [.inr (.inr 0), .inl x, .inl l, .inl f, .inl n] M (fun w M' => w = -1 ∧ M' = M) := by
  refine mk_C mt_86 rfl (Nat.le_of_ble_eq_true rfl) (L := [some _, some _, some _, some _, some _, none, none, none]) rfl ?_
  refine w_iload_n ta_86 rfl rfl ?_
  refine w_cI [_] _ ta_86 rfl rfl rfl mt_95 rfl rfl rfl rfl (Nat.le_of_ble_eq_true rfl) (fun q => by cases q) rfl (c_isSheet _ M x hx) ?_
  rintro vw M2 ⟨hvw, rfl⟩
  refine w_if_eq ta_86 rfl ⟨by omega, by omega⟩ (fun h4 => ?_) (fun h4 => ?_)
  · refine w_iconst ta_86 rfl ?_
    refine w_iret ta_86 rfl (Or.inl rfl) ?_
    exact ⟨_, rfl, rfl, rfl⟩
  · refine w_iload_n ta_86 rfl rfl ?_
    refine w_cI [_] _ ta_86 rfl rfl rfl mt_96 rfl rfl rfl rfl (Nat.le_of_ble_eq_true rfl) (fun q => by cases q) rfl (c_isLane _ M2 l hl) ?_
    rintro v2 M3 ⟨hv2, rfl⟩
    refine w_if_eq ta_86 rfl ⟨by omega, by omega⟩ (fun h11 => ?_) (fun h11 => ?_)
    · refine w_iconst ta_86 rfl ?_
      refine w_iret ta_86 rfl (Or.inl rfl) ?_
      exact ⟨_, rfl, rfl, rfl⟩
    · refine w_iload ta_86 rfl rfl ?_
      refine w_iconst ta_86 rfl ?_
      refine w_bipush ta_86 rfl ?_
      refine w_cI [_, _, _] _ ta_86 rfl rfl rfl mt_89 rfl rfl rfl rfl (Nat.le_of_ble_eq_true rfl) (fun q => by cases q) rfl (c_win _ n _ _ M3 hn (by constructor <;> omega) (by constructor <;> omega)) ?_
      rintro v3 M4 ⟨hv3, rfl⟩
      refine w_if_ne ta_86 rfl ⟨by omega, by omega⟩ (fun h22 => ?_) (fun h22 => ?_)
      · exfalso; omega
      · refine w_iconst ta_86 rfl ?_
        refine w_iret ta_86 rfl (Or.inl rfl) ?_
        exact ⟨_, rfl, rfl, rfl⟩
set_option maxHeartbeats 4000000 in
set_option maxRecDepth 20000 in
theorem c_sheet_0 (D : Nat) (M : Mem) (l n : Int) (h0 : 0 ≤ l) (h1 : l < 3) (h2 : n ≤ 40) (h3 : 0 ≤ n) : CI (D + 2) 84 [.inr (.inr 0), .inl 0, .inl l, .inl n] M (fun v M' => v = 1 ∧ M' = setC (wr (wr M 72 1 l) 72 2 n) 73 (filF (M 73) 0 40)) := by
  refine mk_C mt_84 rfl (Nat.le_of_ble_eq_true rfl) (L := [some _, some _, some _, some _]) rfl ?_
  refine w_iload_n ta_84 rfl rfl ?_
  refine w_cI [_] _ ta_84 rfl rfl rfl mt_95 rfl rfl rfl rfl (Nat.le_of_ble_eq_true rfl) (fun q => by cases q) rfl (c_isSheet _ M 0 (by constructor <;> omega)) ?_
  rintro v M2 ⟨hv, rfl⟩
  refine w_if_eq ta_84 rfl ⟨by omega, by omega⟩ (fun h4 => ?_) (fun h4 => ?_)
  · exfalso; omega
  · refine w_iload_n ta_84 rfl rfl ?_
    refine w_cI [_] _ ta_84 rfl rfl rfl mt_96 rfl rfl rfl rfl (Nat.le_of_ble_eq_true rfl) (fun q => by cases q) rfl (c_isLane _ M2 l (by constructor <;> omega)) ?_
    rintro v2 M3 ⟨hv2, rfl⟩
    refine w_if_eq ta_84 rfl ⟨by omega, by omega⟩ (fun h11 => ?_) (fun h11 => ?_)
    · exfalso; omega
    · refine w_iload_n ta_84 rfl rfl ?_
      refine w_bipush ta_84 rfl ?_
      refine w_icmp_le ta_84 rfl ⟨by omega, by omega⟩ ⟨by omega, by omega⟩ (fun h17 => ?_) (fun h17 => ?_)
      · refine w_iload_n ta_84 rfl rfl ?_
        refine w_if_ge ta_84 rfl ⟨by omega, by omega⟩ (fun h23 => ?_) (fun h23 => ?_)
        · refine w_aload_n ta_84 rfl rfl ?_
          refine w_getR ta_84 rfl rfl ?_
          refine w_iload_n ta_84 rfl rfl ?_
          refine w_aaload (d := 72) ta_84 rfl rfl (by decide) (by decide) (by decide) rfl ?_
          refine w_iload_n ta_84 rfl rfl ?_
          refine w_iload_n ta_84 rfl rfl ?_
          refine w_cV [_, _, _] _ ta_84 rfl rfl rfl mt_33 rfl rfl rfl rfl (Nat.le_of_ble_eq_true rfl) (fun _ => rfl) rfl (c_renew_0 _ M3 l n) ?_
          rintro M4 hM
          refine w_iconst ta_84 rfl ?_
          refine w_iret ta_84 rfl (Or.inl rfl) ?_
          exact ⟨_, rfl, rfl, hM⟩
        · exfalso; omega
      · exfalso; omega
set_option maxHeartbeats 4000000 in
set_option maxRecDepth 20000 in
theorem c_lay_0 (D : Nat) (M : Mem) (l0 : -1 ≤ M 72 1) (l1 : M 72 1 ≤ 2) (z0 : 0 ≤ M 72 2) (z1 : M 72 2 ≤ 40) (i v : Int) (hi : inR i) : CI (D + 2) 85 [.inr (.inr 0), .inl 0, .inl i, .inl v] M (fun w M' => (M 72 1 = -1 ∧ w = -11 ∧ M' = M) ∨ (M 72 1 ≠ -1 ∧ ¬ (0 ≤ i ∧ i < M 72 2) ∧ w = -12 ∧ M' = M) ∨ (M 72 1 ≠ -1 ∧ (0 ≤ i ∧ i < M 72 2) ∧ w = 1 ∧ M' = wr M 73 i (laV (M 72 1) v))) := by
  refine mk_C mt_85 rfl (Nat.le_of_ble_eq_true rfl) (L := [some _, some _, some _, some _, none]) rfl ?_
  refine w_iload_n ta_85 rfl rfl ?_
  refine w_cI [_] _ ta_85 rfl rfl rfl mt_95 rfl rfl rfl rfl (Nat.le_of_ble_eq_true rfl) (fun q => by cases q) rfl (c_isSheet _ M 0 (by constructor <;> omega)) ?_
  rintro vw M2 ⟨hvw, rfl⟩
  refine w_if_ne ta_85 rfl ⟨by omega, by omega⟩ (fun h4 => ?_) (fun h4 => ?_)
  · refine w_aload_n ta_85 rfl rfl ?_
    refine w_getR ta_85 rfl rfl ?_
    refine w_iload_n ta_85 rfl rfl ?_
    refine w_aaload (d := 72) ta_85 rfl rfl (by decide) (by decide) (by decide) rfl ?_
    refine w_iload_n ta_85 rfl rfl ?_
    refine w_iload_n ta_85 rfl rfl ?_
    refine w_cI [_, _, _] _ ta_85 rfl rfl rfl mt_34 rfl rfl rfl rfl (Nat.le_of_ble_eq_true rfl) (fun _ => rfl) rfl (c_putAt_0 _ M2 l0 l1 z0 z1 i v hi) ?_
    rintro w M3 hw
    refine w_ist_4_5 ta_85 rfl rfl ?_
    refine w_iload ta_85 rfl rfl ?_
    refine w_if_ne ta_85 rfl (by constructor <;> omega) (fun h24 => ?_) (fun h24 => ?_)
    · refine w_bipush ta_85 rfl ?_
      refine w_iload ta_85 rfl rfl ?_
      refine w_isub ta_85 rfl ?_
      refine w_iret ta_85 rfl (Or.inl rfl) ?_
      refine ⟨_, rfl, ?_⟩
      rcases hw with ⟨a, rfl, rfl⟩ | ⟨a, b, rfl, rfl⟩ | ⟨a, b, rfl, hM⟩
      · first
          | exact Or.inl ⟨a, rfl, rfl⟩
          | (exfalso; omega)
      · first
          | exact Or.inr (Or.inl ⟨a, b, rfl, rfl⟩)
          | (exfalso; omega)
      · first
          | exact Or.inr (Or.inr ⟨a, b, rfl, hM⟩)
          | (exfalso; omega)
    · refine w_iconst ta_85 rfl ?_
      refine w_goto ta_85 rfl ?_
      refine w_iret ta_85 rfl (Or.inl rfl) ?_
      refine ⟨_, rfl, ?_⟩
      rcases hw with ⟨a, rfl, rfl⟩ | ⟨a, b, rfl, rfl⟩ | ⟨a, b, rfl, hM⟩
      · first
          | exact Or.inl ⟨a, rfl, rfl⟩
          | (exfalso; omega)
      · first
          | exact Or.inr (Or.inl ⟨a, b, rfl, rfl⟩)
          | (exfalso; omega)
      · first
          | exact Or.inr (Or.inr ⟨a, b, rfl, hM⟩)
          | (exfalso; omega)
  · exfalso; omega
set_option maxHeartbeats 4000000 in
set_option maxRecDepth 20000 in
theorem lp_read1_0 (D : Nat) (M : Mem) (hI : PkI 3 M) (l0 : -1 ≤ M 72 1) (l1 : M 72 1 ≤ 2) (z0 : 0 ≤ M 72 2) (z1 : M 72 2 ≤ 40) (hr : ∀ j, 0 ≤ j → j < 40 → inR (M 73 j)) (l f n wh : Int) (hw0 : 0 ≤ wh) (hw1 : wh ≤ 20) (hw2 : wh = 0 ∨ (0 ≤ f ∧ f + 2 * wh ≤ M 72 2)) (P : Option AV → Mem → Prop) (hB : ∀ i, 0 ≤ i → i < wh → ¬ rdO (M 73) f (M 3 4) (M 3 5) i → (∀ j, 0 ≤ j → j < i → rdO (M 73) f (M 3 4) (M 3 5) j) → P (some (.inl (-20 - i))) M) (hG : (∀ j, 0 ≤ j → j < wh → rdO (M 73) f (M 3 4) (M 3 5) j) → Wp (D + 5) 86 (108, [some (.inr (.inr 0)), some (.inl 0), some (.inl l), some (.inl f), some (.inl n), some (.inr (.inr 72)), some (.inl wh), some (.inl wh)], [], M) P) : ∀ i : Int, 0 ≤ i → i ≤ wh → (∀ j, 0 ≤ j → j < i → rdO (M 73) f (M 3 4) (M 3 5) j) → Wp (D + 5) 86 (49, [some (.inr (.inr 0)), some (.inl 0), some (.inl l), some (.inl f), some (.inl n), some (.inr (.inr 72)), some (.inl wh), some (.inl i)], [], M) P := by
  obtain ⟨n0, n1, k0, k1, f0, f1, r0, r1, s0, s1, hA⟩ := pkd_3 hI
  refine loopZ wh ?_
  intro i h0 h1 ih hK
  refine w_iload ta_86 rfl rfl ?_
  refine w_iload ta_86 rfl rfl ?_
  refine w_icmp_ge ta_86 rfl ⟨by omega, by omega⟩ ⟨by omega, by omega⟩ (fun h53 => ?_) (fun h53 => ?_)
  · have e : i = wh := by omega
    subst e
    exact hG hK
  · obtain ⟨a0, a1⟩ := hr (f + 2 * i) (by omega) (by omega)
    obtain ⟨b0, b1⟩ := hr (f + 2 * i + 1) (by omega) (by omega)
    refine w_aload_n ta_86 rfl rfl ?_
    refine w_aload ta_86 rfl rfl ?_
    refine w_getR ta_86 rfl rfl ?_
    refine w_iload_n ta_86 rfl rfl ?_
    refine w_iconst ta_86 rfl ?_
    refine w_iload ta_86 rfl rfl ?_
    refine w_imul ta_86 rfl ?_
    refine w_iadd ta_86 rfl ?_
    refine w_iaload ta_86 rfl rfl (by omega) (by omega) (by omega) ?_
    refine w_cI [_, _] _ ta_86 rfl rfl rfl mt_90 rfl rfl rfl rfl (Nat.le_of_ble_eq_true rfl) (fun _ => rfl) rfl (c_isCell _ M hI _ ⟨a0, a1⟩) ?_
    rintro v M2 ⟨hv, rfl⟩
    refine w_if_eq ta_86 rfl ⟨by omega, by omega⟩ (fun h72 => ?_) (fun h72 => ?_)
    · refine w_bipush ta_86 rfl ?_
      refine w_iload ta_86 rfl rfl ?_
      refine w_isub ta_86 rfl ?_
      refine w_iret ta_86 rfl (Or.inl rfl) ?_
      exact hB i h0 h53 (fun q => by unfold rdO at q; omega) hK
    · refine w_aload_n ta_86 rfl rfl ?_
      refine w_aload ta_86 rfl rfl ?_
      refine w_getR ta_86 rfl rfl ?_
      refine w_iload_n ta_86 rfl rfl ?_
      refine w_iconst ta_86 rfl ?_
      refine w_iload ta_86 rfl rfl ?_
      refine w_imul ta_86 rfl ?_
      refine w_iadd ta_86 rfl ?_
      refine w_iconst ta_86 rfl ?_
      refine w_iadd ta_86 rfl ?_
      refine w_iaload ta_86 rfl rfl (by omega) (by omega) (by omega) ?_
      refine w_cI [_, _] _ ta_86 rfl rfl rfl mt_91 rfl rfl rfl rfl (Nat.le_of_ble_eq_true rfl) (fun _ => rfl) rfl (c_isGroup _ M2 hI _ ⟨b0, b1⟩) ?_
      rintro v2 M3 ⟨hv2, rfl⟩
      refine w_if_ne ta_86 rfl ⟨by omega, by omega⟩ (fun h93 => ?_) (fun h93 => ?_)
      · refine w_iinc_7_8 ta_86 rfl rfl ?_
        refine w_goto ta_86 rfl ?_
        exact ih h53 (fun j j0 j1 => by
          by_cases e : j = i
          · subst e; exact ⟨by omega, by omega⟩
          · exact hK j j0 (by omega))
      · refine w_bipush ta_86 rfl ?_
        refine w_iload ta_86 rfl rfl ?_
        refine w_isub ta_86 rfl ?_
        refine w_iret ta_86 rfl (Or.inl rfl) ?_
        exact hB i h0 h53 (fun q => by unfold rdO at q; omega) hK
set_option maxHeartbeats 4000000 in
set_option maxRecDepth 20000 in
theorem lp_read2_0 (D : Nat) (M : Mem) (hI : PkI 3 M) (l0 : -1 ≤ M 72 1) (l1 : M 72 1 ≤ 2) (z0 : 0 ≤ M 72 2) (z1 : M 72 2 ≤ 40) (hr : ∀ j, 0 ≤ j → j < 40 → inR (M 73 j)) (l f n wh : Int) (hw0 : 0 ≤ wh) (hw1 : wh ≤ 20) (hw2 : wh = 0 ∨ (0 ≤ f ∧ f + 2 * wh ≤ M 72 2)) (hl : inR l) (hn : inR n) (hok : ∀ j, 0 ≤ j → j < wh → rdO (M 73) f (M 3 4) (M 3 5) j) : ∀ i : Int, 0 ≤ i → i ≤ wh → Wp (D + 5) 86 (111, [some (.inr (.inr 0)), some (.inl 0), some (.inl l), some (.inl f), some (.inl n), some (.inr (.inr 72)), some (.inl wh), some (.inl i)], [], setC M 6 (rdF (M 73) f (M 6) i.toNat)) (fun r M' => ∃ v, r = some (.inl v) ∧ (v = wh ∧ M' = wr (setC M 6 (rdF (M 73) f (M 6) wh.toNat)) 0 9 (if wh = n then 0 else faZ l (M 72 1)))) := by
  obtain ⟨n0, n1, k0, k1, f0, f1, r0, r1, s0, s1, hA⟩ := pkd_3 hI
  refine loopZ wh ?_
  intro i h0 h1 ih
  refine w_iload ta_86 rfl rfl ?_
  refine w_iload ta_86 rfl rfl ?_
  refine w_icmp_ge ta_86 rfl ⟨by omega, by omega⟩ ⟨by omega, by omega⟩ (fun h115 => ?_) (fun h115 => ?_)
  · have e : i = wh := by omega
    subst e
    obtain ⟨n2, n3⟩ := id hn
    refine w_aload_n ta_86 rfl rfl ?_
    refine w_iload ta_86 rfl rfl ?_
    refine w_iload ta_86 rfl rfl ?_
    refine w_icmp_ne ta_86 rfl ⟨by omega, by omega⟩ ⟨by omega, by omega⟩ (fun h163 => ?_) (fun h163 => ?_)
    · refine w_aload ta_86 rfl rfl ?_
      refine w_iload_n ta_86 rfl rfl ?_
      refine w_cI [_, _] _ ta_86 rfl rfl rfl mt_36 rfl rfl rfl rfl (Nat.le_of_ble_eq_true rfl) (fun _ => rfl) rfl (c_faultAs_0 _ (setC M 6 _) l0 l1 z0 z1 l hl) ?_
      rintro v M2 ⟨hv, rfl⟩
      have hv : v = faZ l (M 72 1) := hv
      refine w_putI 9 ta_86 rfl rfl rfl ?_
      refine w_iload ta_86 rfl rfl ?_
      refine w_iret ta_86 rfl (Or.inl rfl) ?_
      refine ⟨_, rfl, rfl, ?_⟩
      first
        | rw [if_pos (by omega)]
        | rw [if_neg (by omega), ← hv]
    · refine w_iconst ta_86 rfl ?_
      refine w_goto ta_86 rfl ?_
      refine w_putI 9 ta_86 rfl rfl rfl ?_
      refine w_iload ta_86 rfl rfl ?_
      refine w_iret ta_86 rfl (Or.inl rfl) ?_
      refine ⟨_, rfl, rfl, ?_⟩
      first
        | rw [if_pos (by omega)]
        | rw [if_neg (by omega), ← hv]
  · have rk := hok i h0 h115
    unfold rdO at rk
    have ih := ih h115
    rw [show (i + 1).toNat = i.toNat + 1 by omega] at ih
    simp only [rdF] at ih
    rw [show ((i.toNat : Nat) : Int) = i by omega] at ih
    refine w_aload_n ta_86 rfl rfl ?_
    refine w_getR ta_86 rfl rfl ?_
    refine w_getR ta_86 rfl rfl ?_
    refine w_aload ta_86 rfl rfl ?_
    refine w_getR ta_86 rfl rfl ?_
    refine w_iload_n ta_86 rfl rfl ?_
    refine w_iconst ta_86 rfl ?_
    refine w_iload ta_86 rfl rfl ?_
    refine w_imul ta_86 rfl ?_
    refine w_iadd ta_86 rfl ?_
    refine w_ialoadv (v := M 73 (f + 2 * i)) ta_86 rfl rfl (by omega) (by omega) (by omega) rfl ?_
    refine w_aload ta_86 rfl rfl ?_
    refine w_getR ta_86 rfl rfl ?_
    refine w_iload_n ta_86 rfl rfl ?_
    refine w_iconst ta_86 rfl ?_
    refine w_iload ta_86 rfl rfl ?_
    refine w_imul ta_86 rfl ?_
    refine w_iadd ta_86 rfl ?_
    refine w_iconst ta_86 rfl ?_
    refine w_iadd ta_86 rfl ?_
    refine w_ialoadv (v := M 73 (f + 2 * i + 1)) ta_86 rfl rfl (by omega) (by omega) (by omega) rfl ?_
    refine w_iastore ta_86 rfl rfl (by omega) (by omega) (by omega) ?_
    refine w_iinc_7_8 ta_86 rfl rfl ?_
    refine w_goto ta_86 rfl ?_
    rw [wr_sc]
    exact ih
set_option maxHeartbeats 4000000 in
set_option maxRecDepth 20000 in
theorem c_read_0 (D : Nat) (M : Mem) (hI : PkI 3 M) (l0 : -1 ≤ M 72 1) (l1 : M 72 1 ≤ 2) (z0 : 0 ≤ M 72 2) (z1 : M 72 2 ≤ 40) (hr : ∀ j, 0 ≤ j → j < 40 → inR (M 73 j)) (l f n : Int) (h0 : 0 ≤ l) (h1 : l < 3) (hf : inR f) (h2 : 0 ≤ n) (h3 : n ≤ 20) : CI (D + 5) 86 [.inr (.inr 0), .inl 0, .inl l, .inl f, .inl n] M (fun v M' => (∃ i, 0 ≤ i ∧ i < whZ l (M 72 1) (M 72 2) f n ∧ ¬ rdO (M 73) f (M 3 4) (M 3 5) i ∧ (∀ j, 0 ≤ j → j < i → rdO (M 73) f (M 3 4) (M 3 5) j) ∧ v = -20 - i ∧ M' = M) ∨ ((∀ j, 0 ≤ j → j < whZ l (M 72 1) (M 72 2) f n → rdO (M 73) f (M 3 4) (M 3 5) j) ∧ v = whZ l (M 72 1) (M 72 2) f n ∧ M' = wr (setC M 6 (rdF (M 73) f (M 6) (whZ l (M 72 1) (M 72 2) f n).toNat)) 0 9 (if whZ l (M 72 1) (M 72 2) f n = n then 0 else faZ l (M 72 1)))) := by
  refine mk_C mt_86 rfl (Nat.le_of_ble_eq_true rfl) (L := [some _, some _, some _, some _, some _, none, none, none]) rfl ?_
  obtain ⟨n0, n1, k0, k1, f0, f1, r0, r1, s0, s1, hA⟩ := pkd_3 hI
  refine w_iload_n ta_86 rfl rfl ?_
  refine w_cI [_] _ ta_86 rfl rfl rfl mt_95 rfl rfl rfl rfl (Nat.le_of_ble_eq_true rfl) (fun q => by cases q) rfl (c_isSheet _ M 0 (by constructor <;> omega)) ?_
  rintro v M2 ⟨hv, rfl⟩
  refine w_if_eq ta_86 rfl ⟨by omega, by omega⟩ (fun h4 => ?_) (fun h4 => ?_)
  · exfalso; omega
  · refine w_iload_n ta_86 rfl rfl ?_
    refine w_cI [_] _ ta_86 rfl rfl rfl mt_96 rfl rfl rfl rfl (Nat.le_of_ble_eq_true rfl) (fun q => by cases q) rfl (c_isLane _ M2 l (by constructor <;> omega)) ?_
    rintro v2 M3 ⟨hv2, rfl⟩
    refine w_if_eq ta_86 rfl ⟨by omega, by omega⟩ (fun h11 => ?_) (fun h11 => ?_)
    · exfalso; omega
    · refine w_iload ta_86 rfl rfl ?_
      refine w_iconst ta_86 rfl ?_
      refine w_bipush ta_86 rfl ?_
      refine w_cI [_, _, _] _ ta_86 rfl rfl rfl mt_89 rfl rfl rfl rfl (Nat.le_of_ble_eq_true rfl) (fun q => by cases q) rfl (c_win _ n _ _ M3 (by constructor <;> omega) (by constructor <;> omega) (by constructor <;> omega)) ?_
      rintro v3 M4 ⟨hv3, rfl⟩
      refine w_if_ne ta_86 rfl ⟨by omega, by omega⟩ (fun h22 => ?_) (fun h22 => ?_)
      · refine w_aload_n ta_86 rfl rfl ?_
        refine w_getR ta_86 rfl rfl ?_
        refine w_iload_n ta_86 rfl rfl ?_
        refine w_aaload (d := 72) ta_86 rfl rfl (by decide) (by decide) (by decide) rfl ?_
        refine w_ast_5_8 ta_86 rfl rfl ?_
        refine w_aload ta_86 rfl rfl ?_
        refine w_iload_n ta_86 rfl rfl ?_
        refine w_iload_n ta_86 rfl rfl ?_
        refine w_iload ta_86 rfl rfl ?_
        refine w_cI [_, _, _, _] _ ta_86 rfl rfl rfl mt_35 rfl rfl rfl rfl (Nat.le_of_ble_eq_true rfl) (fun _ => rfl) rfl (c_wholePairs_0 _ M4 l0 l1 z0 z1 l f n (by constructor <;> omega) hf (by constructor <;> omega)) ?_
        rintro wh M5 ⟨hwh, rfl⟩
        have hwh : wh = whZ l (M5 72 1) (M5 72 2) f n := hwh
        have wb := whZ_b (l := l) (lane := M5 72 1) (size := M5 72 2) (f := f) h2 h3
        rw [← hwh] at wb
        refine w_ist_6_8 ta_86 rfl rfl ?_
        refine w_iconst ta_86 rfl ?_
        refine w_ist_7_8 ta_86 rfl rfl ?_
        rw [← hwh]
        refine lp_read1_0 D M5 hI l0 l1 z0 z1 hr l f n wh wb.1 (by omega) (by omega) _ ?_ ?_ 0 (by omega) wb.1 (fun j j0 j1 => by omega)
        · intro i i0 i1 hb hk
          exact ⟨_, rfl, Or.inl ⟨i, i0, i1, hb, hk, rfl, rfl⟩⟩
        · intro hok
          have q := lp_read2_0 D M5 hI l0 l1 z0 z1 hr l f n wh wb.1 (by omega) (by omega) (by constructor <;> omega) (by constructor <;> omega) hok 0 (by omega) wb.1
          rw [show rdF (M5 73) f (M5 6) (0 : Int).toNat = M5 6 from rfl, sc_id] at q
          refine w_iconst ta_86 rfl ?_
          refine w_ist_7_8 ta_86 rfl rfl ?_
          refine q.imp ?_
          rintro r M' ⟨w, hr2, hw2, hM'⟩
          exact ⟨w, hr2, Or.inr ⟨hok, hw2, hM'⟩⟩
      · exfalso; omega
set_option maxHeartbeats 4000000 in
set_option maxRecDepth 20000 in
theorem c_sheet_1 (D : Nat) (M : Mem) (l n : Int) (h0 : 0 ≤ l) (h1 : l < 3) (h2 : n ≤ 40) (h3 : 0 ≤ n) : CI (D + 2) 84 [.inr (.inr 0), .inl 1, .inl l, .inl n] M (fun v M' => v = 1 ∧ M' = setC (wr (wr M 74 1 l) 74 2 n) 75 (filF (M 75) 0 40)) := by
  refine mk_C mt_84 rfl (Nat.le_of_ble_eq_true rfl) (L := [some _, some _, some _, some _]) rfl ?_
  refine w_iload_n ta_84 rfl rfl ?_
  refine w_cI [_] _ ta_84 rfl rfl rfl mt_95 rfl rfl rfl rfl (Nat.le_of_ble_eq_true rfl) (fun q => by cases q) rfl (c_isSheet _ M 1 (by constructor <;> omega)) ?_
  rintro v M2 ⟨hv, rfl⟩
  refine w_if_eq ta_84 rfl ⟨by omega, by omega⟩ (fun h4 => ?_) (fun h4 => ?_)
  · exfalso; omega
  · refine w_iload_n ta_84 rfl rfl ?_
    refine w_cI [_] _ ta_84 rfl rfl rfl mt_96 rfl rfl rfl rfl (Nat.le_of_ble_eq_true rfl) (fun q => by cases q) rfl (c_isLane _ M2 l (by constructor <;> omega)) ?_
    rintro v2 M3 ⟨hv2, rfl⟩
    refine w_if_eq ta_84 rfl ⟨by omega, by omega⟩ (fun h11 => ?_) (fun h11 => ?_)
    · exfalso; omega
    · refine w_iload_n ta_84 rfl rfl ?_
      refine w_bipush ta_84 rfl ?_
      refine w_icmp_le ta_84 rfl ⟨by omega, by omega⟩ ⟨by omega, by omega⟩ (fun h17 => ?_) (fun h17 => ?_)
      · refine w_iload_n ta_84 rfl rfl ?_
        refine w_if_ge ta_84 rfl ⟨by omega, by omega⟩ (fun h23 => ?_) (fun h23 => ?_)
        · refine w_aload_n ta_84 rfl rfl ?_
          refine w_getR ta_84 rfl rfl ?_
          refine w_iload_n ta_84 rfl rfl ?_
          refine w_aaload (d := 74) ta_84 rfl rfl (by decide) (by decide) (by decide) rfl ?_
          refine w_iload_n ta_84 rfl rfl ?_
          refine w_iload_n ta_84 rfl rfl ?_
          refine w_cV [_, _, _] _ ta_84 rfl rfl rfl mt_33 rfl rfl rfl rfl (Nat.le_of_ble_eq_true rfl) (fun _ => rfl) rfl (c_renew_1 _ M3 l n) ?_
          rintro M4 hM
          refine w_iconst ta_84 rfl ?_
          refine w_iret ta_84 rfl (Or.inl rfl) ?_
          exact ⟨_, rfl, rfl, hM⟩
        · exfalso; omega
      · exfalso; omega
set_option maxHeartbeats 4000000 in
set_option maxRecDepth 20000 in
theorem c_lay_1 (D : Nat) (M : Mem) (l0 : -1 ≤ M 74 1) (l1 : M 74 1 ≤ 2) (z0 : 0 ≤ M 74 2) (z1 : M 74 2 ≤ 40) (i v : Int) (hi : inR i) : CI (D + 2) 85 [.inr (.inr 0), .inl 1, .inl i, .inl v] M (fun w M' => (M 74 1 = -1 ∧ w = -11 ∧ M' = M) ∨ (M 74 1 ≠ -1 ∧ ¬ (0 ≤ i ∧ i < M 74 2) ∧ w = -12 ∧ M' = M) ∨ (M 74 1 ≠ -1 ∧ (0 ≤ i ∧ i < M 74 2) ∧ w = 1 ∧ M' = wr M 75 i (laV (M 74 1) v))) := by
  refine mk_C mt_85 rfl (Nat.le_of_ble_eq_true rfl) (L := [some _, some _, some _, some _, none]) rfl ?_
  refine w_iload_n ta_85 rfl rfl ?_
  refine w_cI [_] _ ta_85 rfl rfl rfl mt_95 rfl rfl rfl rfl (Nat.le_of_ble_eq_true rfl) (fun q => by cases q) rfl (c_isSheet _ M 1 (by constructor <;> omega)) ?_
  rintro vw M2 ⟨hvw, rfl⟩
  refine w_if_ne ta_85 rfl ⟨by omega, by omega⟩ (fun h4 => ?_) (fun h4 => ?_)
  · refine w_aload_n ta_85 rfl rfl ?_
    refine w_getR ta_85 rfl rfl ?_
    refine w_iload_n ta_85 rfl rfl ?_
    refine w_aaload (d := 74) ta_85 rfl rfl (by decide) (by decide) (by decide) rfl ?_
    refine w_iload_n ta_85 rfl rfl ?_
    refine w_iload_n ta_85 rfl rfl ?_
    refine w_cI [_, _, _] _ ta_85 rfl rfl rfl mt_34 rfl rfl rfl rfl (Nat.le_of_ble_eq_true rfl) (fun _ => rfl) rfl (c_putAt_1 _ M2 l0 l1 z0 z1 i v hi) ?_
    rintro w M3 hw
    refine w_ist_4_5 ta_85 rfl rfl ?_
    refine w_iload ta_85 rfl rfl ?_
    refine w_if_ne ta_85 rfl (by constructor <;> omega) (fun h24 => ?_) (fun h24 => ?_)
    · refine w_bipush ta_85 rfl ?_
      refine w_iload ta_85 rfl rfl ?_
      refine w_isub ta_85 rfl ?_
      refine w_iret ta_85 rfl (Or.inl rfl) ?_
      refine ⟨_, rfl, ?_⟩
      rcases hw with ⟨a, rfl, rfl⟩ | ⟨a, b, rfl, rfl⟩ | ⟨a, b, rfl, hM⟩
      · first
          | exact Or.inl ⟨a, rfl, rfl⟩
          | (exfalso; omega)
      · first
          | exact Or.inr (Or.inl ⟨a, b, rfl, rfl⟩)
          | (exfalso; omega)
      · first
          | exact Or.inr (Or.inr ⟨a, b, rfl, hM⟩)
          | (exfalso; omega)
    · refine w_iconst ta_85 rfl ?_
      refine w_goto ta_85 rfl ?_
      refine w_iret ta_85 rfl (Or.inl rfl) ?_
      refine ⟨_, rfl, ?_⟩
      rcases hw with ⟨a, rfl, rfl⟩ | ⟨a, b, rfl, rfl⟩ | ⟨a, b, rfl, hM⟩
      · first
          | exact Or.inl ⟨a, rfl, rfl⟩
          | (exfalso; omega)
      · first
          | exact Or.inr (Or.inl ⟨a, b, rfl, rfl⟩)
          | (exfalso; omega)
      · first
          | exact Or.inr (Or.inr ⟨a, b, rfl, hM⟩)
          | (exfalso; omega)
  · exfalso; omega
set_option maxHeartbeats 4000000 in
set_option maxRecDepth 20000 in
theorem lp_read1_1 (D : Nat) (M : Mem) (hI : PkI 3 M) (l0 : -1 ≤ M 74 1) (l1 : M 74 1 ≤ 2) (z0 : 0 ≤ M 74 2) (z1 : M 74 2 ≤ 40) (hr : ∀ j, 0 ≤ j → j < 40 → inR (M 75 j)) (l f n wh : Int) (hw0 : 0 ≤ wh) (hw1 : wh ≤ 20) (hw2 : wh = 0 ∨ (0 ≤ f ∧ f + 2 * wh ≤ M 74 2)) (P : Option AV → Mem → Prop) (hB : ∀ i, 0 ≤ i → i < wh → ¬ rdO (M 75) f (M 3 4) (M 3 5) i → (∀ j, 0 ≤ j → j < i → rdO (M 75) f (M 3 4) (M 3 5) j) → P (some (.inl (-20 - i))) M) (hG : (∀ j, 0 ≤ j → j < wh → rdO (M 75) f (M 3 4) (M 3 5) j) → Wp (D + 5) 86 (108, [some (.inr (.inr 0)), some (.inl 1), some (.inl l), some (.inl f), some (.inl n), some (.inr (.inr 74)), some (.inl wh), some (.inl wh)], [], M) P) : ∀ i : Int, 0 ≤ i → i ≤ wh → (∀ j, 0 ≤ j → j < i → rdO (M 75) f (M 3 4) (M 3 5) j) → Wp (D + 5) 86 (49, [some (.inr (.inr 0)), some (.inl 1), some (.inl l), some (.inl f), some (.inl n), some (.inr (.inr 74)), some (.inl wh), some (.inl i)], [], M) P := by
  obtain ⟨n0, n1, k0, k1, f0, f1, r0, r1, s0, s1, hA⟩ := pkd_3 hI
  refine loopZ wh ?_
  intro i h0 h1 ih hK
  refine w_iload ta_86 rfl rfl ?_
  refine w_iload ta_86 rfl rfl ?_
  refine w_icmp_ge ta_86 rfl ⟨by omega, by omega⟩ ⟨by omega, by omega⟩ (fun h53 => ?_) (fun h53 => ?_)
  · have e : i = wh := by omega
    subst e
    exact hG hK
  · obtain ⟨a0, a1⟩ := hr (f + 2 * i) (by omega) (by omega)
    obtain ⟨b0, b1⟩ := hr (f + 2 * i + 1) (by omega) (by omega)
    refine w_aload_n ta_86 rfl rfl ?_
    refine w_aload ta_86 rfl rfl ?_
    refine w_getR ta_86 rfl rfl ?_
    refine w_iload_n ta_86 rfl rfl ?_
    refine w_iconst ta_86 rfl ?_
    refine w_iload ta_86 rfl rfl ?_
    refine w_imul ta_86 rfl ?_
    refine w_iadd ta_86 rfl ?_
    refine w_iaload ta_86 rfl rfl (by omega) (by omega) (by omega) ?_
    refine w_cI [_, _] _ ta_86 rfl rfl rfl mt_90 rfl rfl rfl rfl (Nat.le_of_ble_eq_true rfl) (fun _ => rfl) rfl (c_isCell _ M hI _ ⟨a0, a1⟩) ?_
    rintro v M2 ⟨hv, rfl⟩
    refine w_if_eq ta_86 rfl ⟨by omega, by omega⟩ (fun h72 => ?_) (fun h72 => ?_)
    · refine w_bipush ta_86 rfl ?_
      refine w_iload ta_86 rfl rfl ?_
      refine w_isub ta_86 rfl ?_
      refine w_iret ta_86 rfl (Or.inl rfl) ?_
      exact hB i h0 h53 (fun q => by unfold rdO at q; omega) hK
    · refine w_aload_n ta_86 rfl rfl ?_
      refine w_aload ta_86 rfl rfl ?_
      refine w_getR ta_86 rfl rfl ?_
      refine w_iload_n ta_86 rfl rfl ?_
      refine w_iconst ta_86 rfl ?_
      refine w_iload ta_86 rfl rfl ?_
      refine w_imul ta_86 rfl ?_
      refine w_iadd ta_86 rfl ?_
      refine w_iconst ta_86 rfl ?_
      refine w_iadd ta_86 rfl ?_
      refine w_iaload ta_86 rfl rfl (by omega) (by omega) (by omega) ?_
      refine w_cI [_, _] _ ta_86 rfl rfl rfl mt_91 rfl rfl rfl rfl (Nat.le_of_ble_eq_true rfl) (fun _ => rfl) rfl (c_isGroup _ M2 hI _ ⟨b0, b1⟩) ?_
      rintro v2 M3 ⟨hv2, rfl⟩
      refine w_if_ne ta_86 rfl ⟨by omega, by omega⟩ (fun h93 => ?_) (fun h93 => ?_)
      · refine w_iinc_7_8 ta_86 rfl rfl ?_
        refine w_goto ta_86 rfl ?_
        exact ih h53 (fun j j0 j1 => by
          by_cases e : j = i
          · subst e; exact ⟨by omega, by omega⟩
          · exact hK j j0 (by omega))
      · refine w_bipush ta_86 rfl ?_
        refine w_iload ta_86 rfl rfl ?_
        refine w_isub ta_86 rfl ?_
        refine w_iret ta_86 rfl (Or.inl rfl) ?_
        exact hB i h0 h53 (fun q => by unfold rdO at q; omega) hK
set_option maxHeartbeats 4000000 in
set_option maxRecDepth 20000 in
theorem lp_read2_1 (D : Nat) (M : Mem) (hI : PkI 3 M) (l0 : -1 ≤ M 74 1) (l1 : M 74 1 ≤ 2) (z0 : 0 ≤ M 74 2) (z1 : M 74 2 ≤ 40) (hr : ∀ j, 0 ≤ j → j < 40 → inR (M 75 j)) (l f n wh : Int) (hw0 : 0 ≤ wh) (hw1 : wh ≤ 20) (hw2 : wh = 0 ∨ (0 ≤ f ∧ f + 2 * wh ≤ M 74 2)) (hl : inR l) (hn : inR n) (hok : ∀ j, 0 ≤ j → j < wh → rdO (M 75) f (M 3 4) (M 3 5) j) : ∀ i : Int, 0 ≤ i → i ≤ wh → Wp (D + 5) 86 (111, [some (.inr (.inr 0)), some (.inl 1), some (.inl l), some (.inl f), some (.inl n), some (.inr (.inr 74)), some (.inl wh), some (.inl i)], [], setC M 6 (rdF (M 75) f (M 6) i.toNat)) (fun r M' => ∃ v, r = some (.inl v) ∧ (v = wh ∧ M' = wr (setC M 6 (rdF (M 75) f (M 6) wh.toNat)) 0 9 (if wh = n then 0 else faZ l (M 74 1)))) := by
  obtain ⟨n0, n1, k0, k1, f0, f1, r0, r1, s0, s1, hA⟩ := pkd_3 hI
  refine loopZ wh ?_
  intro i h0 h1 ih
  refine w_iload ta_86 rfl rfl ?_
  refine w_iload ta_86 rfl rfl ?_
  refine w_icmp_ge ta_86 rfl ⟨by omega, by omega⟩ ⟨by omega, by omega⟩ (fun h115 => ?_) (fun h115 => ?_)
  · have e : i = wh := by omega
    subst e
    obtain ⟨n2, n3⟩ := id hn
    refine w_aload_n ta_86 rfl rfl ?_
    refine w_iload ta_86 rfl rfl ?_
    refine w_iload ta_86 rfl rfl ?_
    refine w_icmp_ne ta_86 rfl ⟨by omega, by omega⟩ ⟨by omega, by omega⟩ (fun h163 => ?_) (fun h163 => ?_)
    · refine w_aload ta_86 rfl rfl ?_
      refine w_iload_n ta_86 rfl rfl ?_
      refine w_cI [_, _] _ ta_86 rfl rfl rfl mt_36 rfl rfl rfl rfl (Nat.le_of_ble_eq_true rfl) (fun _ => rfl) rfl (c_faultAs_1 _ (setC M 6 _) l0 l1 z0 z1 l hl) ?_
      rintro v M2 ⟨hv, rfl⟩
      have hv : v = faZ l (M 74 1) := hv
      refine w_putI 9 ta_86 rfl rfl rfl ?_
      refine w_iload ta_86 rfl rfl ?_
      refine w_iret ta_86 rfl (Or.inl rfl) ?_
      refine ⟨_, rfl, rfl, ?_⟩
      first
        | rw [if_pos (by omega)]
        | rw [if_neg (by omega), ← hv]
    · refine w_iconst ta_86 rfl ?_
      refine w_goto ta_86 rfl ?_
      refine w_putI 9 ta_86 rfl rfl rfl ?_
      refine w_iload ta_86 rfl rfl ?_
      refine w_iret ta_86 rfl (Or.inl rfl) ?_
      refine ⟨_, rfl, rfl, ?_⟩
      first
        | rw [if_pos (by omega)]
        | rw [if_neg (by omega), ← hv]
  · have rk := hok i h0 h115
    unfold rdO at rk
    have ih := ih h115
    rw [show (i + 1).toNat = i.toNat + 1 by omega] at ih
    simp only [rdF] at ih
    rw [show ((i.toNat : Nat) : Int) = i by omega] at ih
    refine w_aload_n ta_86 rfl rfl ?_
    refine w_getR ta_86 rfl rfl ?_
    refine w_getR ta_86 rfl rfl ?_
    refine w_aload ta_86 rfl rfl ?_
    refine w_getR ta_86 rfl rfl ?_
    refine w_iload_n ta_86 rfl rfl ?_
    refine w_iconst ta_86 rfl ?_
    refine w_iload ta_86 rfl rfl ?_
    refine w_imul ta_86 rfl ?_
    refine w_iadd ta_86 rfl ?_
    refine w_ialoadv (v := M 75 (f + 2 * i)) ta_86 rfl rfl (by omega) (by omega) (by omega) rfl ?_
    refine w_aload ta_86 rfl rfl ?_
    refine w_getR ta_86 rfl rfl ?_
    refine w_iload_n ta_86 rfl rfl ?_
    refine w_iconst ta_86 rfl ?_
    refine w_iload ta_86 rfl rfl ?_
    refine w_imul ta_86 rfl ?_
    refine w_iadd ta_86 rfl ?_
    refine w_iconst ta_86 rfl ?_
    refine w_iadd ta_86 rfl ?_
    refine w_ialoadv (v := M 75 (f + 2 * i + 1)) ta_86 rfl rfl (by omega) (by omega) (by omega) rfl ?_
    refine w_iastore ta_86 rfl rfl (by omega) (by omega) (by omega) ?_
    refine w_iinc_7_8 ta_86 rfl rfl ?_
    refine w_goto ta_86 rfl ?_
    rw [wr_sc]
    exact ih
set_option maxHeartbeats 4000000 in
set_option maxRecDepth 20000 in
theorem c_read_1 (D : Nat) (M : Mem) (hI : PkI 3 M) (l0 : -1 ≤ M 74 1) (l1 : M 74 1 ≤ 2) (z0 : 0 ≤ M 74 2) (z1 : M 74 2 ≤ 40) (hr : ∀ j, 0 ≤ j → j < 40 → inR (M 75 j)) (l f n : Int) (h0 : 0 ≤ l) (h1 : l < 3) (hf : inR f) (h2 : 0 ≤ n) (h3 : n ≤ 20) : CI (D + 5) 86 [.inr (.inr 0), .inl 1, .inl l, .inl f, .inl n] M (fun v M' => (∃ i, 0 ≤ i ∧ i < whZ l (M 74 1) (M 74 2) f n ∧ ¬ rdO (M 75) f (M 3 4) (M 3 5) i ∧ (∀ j, 0 ≤ j → j < i → rdO (M 75) f (M 3 4) (M 3 5) j) ∧ v = -20 - i ∧ M' = M) ∨ ((∀ j, 0 ≤ j → j < whZ l (M 74 1) (M 74 2) f n → rdO (M 75) f (M 3 4) (M 3 5) j) ∧ v = whZ l (M 74 1) (M 74 2) f n ∧ M' = wr (setC M 6 (rdF (M 75) f (M 6) (whZ l (M 74 1) (M 74 2) f n).toNat)) 0 9 (if whZ l (M 74 1) (M 74 2) f n = n then 0 else faZ l (M 74 1)))) := by
  refine mk_C mt_86 rfl (Nat.le_of_ble_eq_true rfl) (L := [some _, some _, some _, some _, some _, none, none, none]) rfl ?_
  obtain ⟨n0, n1, k0, k1, f0, f1, r0, r1, s0, s1, hA⟩ := pkd_3 hI
  refine w_iload_n ta_86 rfl rfl ?_
  refine w_cI [_] _ ta_86 rfl rfl rfl mt_95 rfl rfl rfl rfl (Nat.le_of_ble_eq_true rfl) (fun q => by cases q) rfl (c_isSheet _ M 1 (by constructor <;> omega)) ?_
  rintro v M2 ⟨hv, rfl⟩
  refine w_if_eq ta_86 rfl ⟨by omega, by omega⟩ (fun h4 => ?_) (fun h4 => ?_)
  · exfalso; omega
  · refine w_iload_n ta_86 rfl rfl ?_
    refine w_cI [_] _ ta_86 rfl rfl rfl mt_96 rfl rfl rfl rfl (Nat.le_of_ble_eq_true rfl) (fun q => by cases q) rfl (c_isLane _ M2 l (by constructor <;> omega)) ?_
    rintro v2 M3 ⟨hv2, rfl⟩
    refine w_if_eq ta_86 rfl ⟨by omega, by omega⟩ (fun h11 => ?_) (fun h11 => ?_)
    · exfalso; omega
    · refine w_iload ta_86 rfl rfl ?_
      refine w_iconst ta_86 rfl ?_
      refine w_bipush ta_86 rfl ?_
      refine w_cI [_, _, _] _ ta_86 rfl rfl rfl mt_89 rfl rfl rfl rfl (Nat.le_of_ble_eq_true rfl) (fun q => by cases q) rfl (c_win _ n _ _ M3 (by constructor <;> omega) (by constructor <;> omega) (by constructor <;> omega)) ?_
      rintro v3 M4 ⟨hv3, rfl⟩
      refine w_if_ne ta_86 rfl ⟨by omega, by omega⟩ (fun h22 => ?_) (fun h22 => ?_)
      · refine w_aload_n ta_86 rfl rfl ?_
        refine w_getR ta_86 rfl rfl ?_
        refine w_iload_n ta_86 rfl rfl ?_
        refine w_aaload (d := 74) ta_86 rfl rfl (by decide) (by decide) (by decide) rfl ?_
        refine w_ast_5_8 ta_86 rfl rfl ?_
        refine w_aload ta_86 rfl rfl ?_
        refine w_iload_n ta_86 rfl rfl ?_
        refine w_iload_n ta_86 rfl rfl ?_
        refine w_iload ta_86 rfl rfl ?_
        refine w_cI [_, _, _, _] _ ta_86 rfl rfl rfl mt_35 rfl rfl rfl rfl (Nat.le_of_ble_eq_true rfl) (fun _ => rfl) rfl (c_wholePairs_1 _ M4 l0 l1 z0 z1 l f n (by constructor <;> omega) hf (by constructor <;> omega)) ?_
        rintro wh M5 ⟨hwh, rfl⟩
        have hwh : wh = whZ l (M5 74 1) (M5 74 2) f n := hwh
        have wb := whZ_b (l := l) (lane := M5 74 1) (size := M5 74 2) (f := f) h2 h3
        rw [← hwh] at wb
        refine w_ist_6_8 ta_86 rfl rfl ?_
        refine w_iconst ta_86 rfl ?_
        refine w_ist_7_8 ta_86 rfl rfl ?_
        rw [← hwh]
        refine lp_read1_1 D M5 hI l0 l1 z0 z1 hr l f n wh wb.1 (by omega) (by omega) _ ?_ ?_ 0 (by omega) wb.1 (fun j j0 j1 => by omega)
        · intro i i0 i1 hb hk
          exact ⟨_, rfl, Or.inl ⟨i, i0, i1, hb, hk, rfl, rfl⟩⟩
        · intro hok
          have q := lp_read2_1 D M5 hI l0 l1 z0 z1 hr l f n wh wb.1 (by omega) (by omega) (by constructor <;> omega) (by constructor <;> omega) hok 0 (by omega) wb.1
          rw [show rdF (M5 75) f (M5 6) (0 : Int).toNat = M5 6 from rfl, sc_id] at q
          refine w_iconst ta_86 rfl ?_
          refine w_ist_7_8 ta_86 rfl rfl ?_
          refine q.imp ?_
          rintro r M' ⟨w, hr2, hw2, hM'⟩
          exact ⟨w, hr2, Or.inr ⟨hok, hw2, hM'⟩⟩
      · exfalso; omega
set_option maxHeartbeats 4000000 in
set_option maxRecDepth 20000 in
theorem c_sheet_2 (D : Nat) (M : Mem) (l n : Int) (h0 : 0 ≤ l) (h1 : l < 3) (h2 : n ≤ 40) (h3 : 0 ≤ n) : CI (D + 2) 84 [.inr (.inr 0), .inl 2, .inl l, .inl n] M (fun v M' => v = 1 ∧ M' = setC (wr (wr M 76 1 l) 76 2 n) 77 (filF (M 77) 0 40)) := by
  refine mk_C mt_84 rfl (Nat.le_of_ble_eq_true rfl) (L := [some _, some _, some _, some _]) rfl ?_
  refine w_iload_n ta_84 rfl rfl ?_
  refine w_cI [_] _ ta_84 rfl rfl rfl mt_95 rfl rfl rfl rfl (Nat.le_of_ble_eq_true rfl) (fun q => by cases q) rfl (c_isSheet _ M 2 (by constructor <;> omega)) ?_
  rintro v M2 ⟨hv, rfl⟩
  refine w_if_eq ta_84 rfl ⟨by omega, by omega⟩ (fun h4 => ?_) (fun h4 => ?_)
  · exfalso; omega
  · refine w_iload_n ta_84 rfl rfl ?_
    refine w_cI [_] _ ta_84 rfl rfl rfl mt_96 rfl rfl rfl rfl (Nat.le_of_ble_eq_true rfl) (fun q => by cases q) rfl (c_isLane _ M2 l (by constructor <;> omega)) ?_
    rintro v2 M3 ⟨hv2, rfl⟩
    refine w_if_eq ta_84 rfl ⟨by omega, by omega⟩ (fun h11 => ?_) (fun h11 => ?_)
    · exfalso; omega
    · refine w_iload_n ta_84 rfl rfl ?_
      refine w_bipush ta_84 rfl ?_
      refine w_icmp_le ta_84 rfl ⟨by omega, by omega⟩ ⟨by omega, by omega⟩ (fun h17 => ?_) (fun h17 => ?_)
      · refine w_iload_n ta_84 rfl rfl ?_
        refine w_if_ge ta_84 rfl ⟨by omega, by omega⟩ (fun h23 => ?_) (fun h23 => ?_)
        · refine w_aload_n ta_84 rfl rfl ?_
          refine w_getR ta_84 rfl rfl ?_
          refine w_iload_n ta_84 rfl rfl ?_
          refine w_aaload (d := 76) ta_84 rfl rfl (by decide) (by decide) (by decide) rfl ?_
          refine w_iload_n ta_84 rfl rfl ?_
          refine w_iload_n ta_84 rfl rfl ?_
          refine w_cV [_, _, _] _ ta_84 rfl rfl rfl mt_33 rfl rfl rfl rfl (Nat.le_of_ble_eq_true rfl) (fun _ => rfl) rfl (c_renew_2 _ M3 l n) ?_
          rintro M4 hM
          refine w_iconst ta_84 rfl ?_
          refine w_iret ta_84 rfl (Or.inl rfl) ?_
          exact ⟨_, rfl, rfl, hM⟩
        · exfalso; omega
      · exfalso; omega
set_option maxHeartbeats 4000000 in
set_option maxRecDepth 20000 in
theorem c_lay_2 (D : Nat) (M : Mem) (l0 : -1 ≤ M 76 1) (l1 : M 76 1 ≤ 2) (z0 : 0 ≤ M 76 2) (z1 : M 76 2 ≤ 40) (i v : Int) (hi : inR i) : CI (D + 2) 85 [.inr (.inr 0), .inl 2, .inl i, .inl v] M (fun w M' => (M 76 1 = -1 ∧ w = -11 ∧ M' = M) ∨ (M 76 1 ≠ -1 ∧ ¬ (0 ≤ i ∧ i < M 76 2) ∧ w = -12 ∧ M' = M) ∨ (M 76 1 ≠ -1 ∧ (0 ≤ i ∧ i < M 76 2) ∧ w = 1 ∧ M' = wr M 77 i (laV (M 76 1) v))) := by
  refine mk_C mt_85 rfl (Nat.le_of_ble_eq_true rfl) (L := [some _, some _, some _, some _, none]) rfl ?_
  refine w_iload_n ta_85 rfl rfl ?_
  refine w_cI [_] _ ta_85 rfl rfl rfl mt_95 rfl rfl rfl rfl (Nat.le_of_ble_eq_true rfl) (fun q => by cases q) rfl (c_isSheet _ M 2 (by constructor <;> omega)) ?_
  rintro vw M2 ⟨hvw, rfl⟩
  refine w_if_ne ta_85 rfl ⟨by omega, by omega⟩ (fun h4 => ?_) (fun h4 => ?_)
  · refine w_aload_n ta_85 rfl rfl ?_
    refine w_getR ta_85 rfl rfl ?_
    refine w_iload_n ta_85 rfl rfl ?_
    refine w_aaload (d := 76) ta_85 rfl rfl (by decide) (by decide) (by decide) rfl ?_
    refine w_iload_n ta_85 rfl rfl ?_
    refine w_iload_n ta_85 rfl rfl ?_
    refine w_cI [_, _, _] _ ta_85 rfl rfl rfl mt_34 rfl rfl rfl rfl (Nat.le_of_ble_eq_true rfl) (fun _ => rfl) rfl (c_putAt_2 _ M2 l0 l1 z0 z1 i v hi) ?_
    rintro w M3 hw
    refine w_ist_4_5 ta_85 rfl rfl ?_
    refine w_iload ta_85 rfl rfl ?_
    refine w_if_ne ta_85 rfl (by constructor <;> omega) (fun h24 => ?_) (fun h24 => ?_)
    · refine w_bipush ta_85 rfl ?_
      refine w_iload ta_85 rfl rfl ?_
      refine w_isub ta_85 rfl ?_
      refine w_iret ta_85 rfl (Or.inl rfl) ?_
      refine ⟨_, rfl, ?_⟩
      rcases hw with ⟨a, rfl, rfl⟩ | ⟨a, b, rfl, rfl⟩ | ⟨a, b, rfl, hM⟩
      · first
          | exact Or.inl ⟨a, rfl, rfl⟩
          | (exfalso; omega)
      · first
          | exact Or.inr (Or.inl ⟨a, b, rfl, rfl⟩)
          | (exfalso; omega)
      · first
          | exact Or.inr (Or.inr ⟨a, b, rfl, hM⟩)
          | (exfalso; omega)
    · refine w_iconst ta_85 rfl ?_
      refine w_goto ta_85 rfl ?_
      refine w_iret ta_85 rfl (Or.inl rfl) ?_
      refine ⟨_, rfl, ?_⟩
      rcases hw with ⟨a, rfl, rfl⟩ | ⟨a, b, rfl, rfl⟩ | ⟨a, b, rfl, hM⟩
      · first
          | exact Or.inl ⟨a, rfl, rfl⟩
          | (exfalso; omega)
      · first
          | exact Or.inr (Or.inl ⟨a, b, rfl, rfl⟩)
          | (exfalso; omega)
      · first
          | exact Or.inr (Or.inr ⟨a, b, rfl, hM⟩)
          | (exfalso; omega)
  · exfalso; omega
set_option maxHeartbeats 4000000 in
set_option maxRecDepth 20000 in
theorem lp_read1_2 (D : Nat) (M : Mem) (hI : PkI 3 M) (l0 : -1 ≤ M 76 1) (l1 : M 76 1 ≤ 2) (z0 : 0 ≤ M 76 2) (z1 : M 76 2 ≤ 40) (hr : ∀ j, 0 ≤ j → j < 40 → inR (M 77 j)) (l f n wh : Int) (hw0 : 0 ≤ wh) (hw1 : wh ≤ 20) (hw2 : wh = 0 ∨ (0 ≤ f ∧ f + 2 * wh ≤ M 76 2)) (P : Option AV → Mem → Prop) (hB : ∀ i, 0 ≤ i → i < wh → ¬ rdO (M 77) f (M 3 4) (M 3 5) i → (∀ j, 0 ≤ j → j < i → rdO (M 77) f (M 3 4) (M 3 5) j) → P (some (.inl (-20 - i))) M) (hG : (∀ j, 0 ≤ j → j < wh → rdO (M 77) f (M 3 4) (M 3 5) j) → Wp (D + 5) 86 (108, [some (.inr (.inr 0)), some (.inl 2), some (.inl l), some (.inl f), some (.inl n), some (.inr (.inr 76)), some (.inl wh), some (.inl wh)], [], M) P) : ∀ i : Int, 0 ≤ i → i ≤ wh → (∀ j, 0 ≤ j → j < i → rdO (M 77) f (M 3 4) (M 3 5) j) → Wp (D + 5) 86 (49, [some (.inr (.inr 0)), some (.inl 2), some (.inl l), some (.inl f), some (.inl n), some (.inr (.inr 76)), some (.inl wh), some (.inl i)], [], M) P := by
  obtain ⟨n0, n1, k0, k1, f0, f1, r0, r1, s0, s1, hA⟩ := pkd_3 hI
  refine loopZ wh ?_
  intro i h0 h1 ih hK
  refine w_iload ta_86 rfl rfl ?_
  refine w_iload ta_86 rfl rfl ?_
  refine w_icmp_ge ta_86 rfl ⟨by omega, by omega⟩ ⟨by omega, by omega⟩ (fun h53 => ?_) (fun h53 => ?_)
  · have e : i = wh := by omega
    subst e
    exact hG hK
  · obtain ⟨a0, a1⟩ := hr (f + 2 * i) (by omega) (by omega)
    obtain ⟨b0, b1⟩ := hr (f + 2 * i + 1) (by omega) (by omega)
    refine w_aload_n ta_86 rfl rfl ?_
    refine w_aload ta_86 rfl rfl ?_
    refine w_getR ta_86 rfl rfl ?_
    refine w_iload_n ta_86 rfl rfl ?_
    refine w_iconst ta_86 rfl ?_
    refine w_iload ta_86 rfl rfl ?_
    refine w_imul ta_86 rfl ?_
    refine w_iadd ta_86 rfl ?_
    refine w_iaload ta_86 rfl rfl (by omega) (by omega) (by omega) ?_
    refine w_cI [_, _] _ ta_86 rfl rfl rfl mt_90 rfl rfl rfl rfl (Nat.le_of_ble_eq_true rfl) (fun _ => rfl) rfl (c_isCell _ M hI _ ⟨a0, a1⟩) ?_
    rintro v M2 ⟨hv, rfl⟩
    refine w_if_eq ta_86 rfl ⟨by omega, by omega⟩ (fun h72 => ?_) (fun h72 => ?_)
    · refine w_bipush ta_86 rfl ?_
      refine w_iload ta_86 rfl rfl ?_
      refine w_isub ta_86 rfl ?_
      refine w_iret ta_86 rfl (Or.inl rfl) ?_
      exact hB i h0 h53 (fun q => by unfold rdO at q; omega) hK
    · refine w_aload_n ta_86 rfl rfl ?_
      refine w_aload ta_86 rfl rfl ?_
      refine w_getR ta_86 rfl rfl ?_
      refine w_iload_n ta_86 rfl rfl ?_
      refine w_iconst ta_86 rfl ?_
      refine w_iload ta_86 rfl rfl ?_
      refine w_imul ta_86 rfl ?_
      refine w_iadd ta_86 rfl ?_
      refine w_iconst ta_86 rfl ?_
      refine w_iadd ta_86 rfl ?_
      refine w_iaload ta_86 rfl rfl (by omega) (by omega) (by omega) ?_
      refine w_cI [_, _] _ ta_86 rfl rfl rfl mt_91 rfl rfl rfl rfl (Nat.le_of_ble_eq_true rfl) (fun _ => rfl) rfl (c_isGroup _ M2 hI _ ⟨b0, b1⟩) ?_
      rintro v2 M3 ⟨hv2, rfl⟩
      refine w_if_ne ta_86 rfl ⟨by omega, by omega⟩ (fun h93 => ?_) (fun h93 => ?_)
      · refine w_iinc_7_8 ta_86 rfl rfl ?_
        refine w_goto ta_86 rfl ?_
        exact ih h53 (fun j j0 j1 => by
          by_cases e : j = i
          · subst e; exact ⟨by omega, by omega⟩
          · exact hK j j0 (by omega))
      · refine w_bipush ta_86 rfl ?_
        refine w_iload ta_86 rfl rfl ?_
        refine w_isub ta_86 rfl ?_
        refine w_iret ta_86 rfl (Or.inl rfl) ?_
        exact hB i h0 h53 (fun q => by unfold rdO at q; omega) hK
set_option maxHeartbeats 4000000 in
set_option maxRecDepth 20000 in
theorem lp_read2_2 (D : Nat) (M : Mem) (hI : PkI 3 M) (l0 : -1 ≤ M 76 1) (l1 : M 76 1 ≤ 2) (z0 : 0 ≤ M 76 2) (z1 : M 76 2 ≤ 40) (hr : ∀ j, 0 ≤ j → j < 40 → inR (M 77 j)) (l f n wh : Int) (hw0 : 0 ≤ wh) (hw1 : wh ≤ 20) (hw2 : wh = 0 ∨ (0 ≤ f ∧ f + 2 * wh ≤ M 76 2)) (hl : inR l) (hn : inR n) (hok : ∀ j, 0 ≤ j → j < wh → rdO (M 77) f (M 3 4) (M 3 5) j) : ∀ i : Int, 0 ≤ i → i ≤ wh → Wp (D + 5) 86 (111, [some (.inr (.inr 0)), some (.inl 2), some (.inl l), some (.inl f), some (.inl n), some (.inr (.inr 76)), some (.inl wh), some (.inl i)], [], setC M 6 (rdF (M 77) f (M 6) i.toNat)) (fun r M' => ∃ v, r = some (.inl v) ∧ (v = wh ∧ M' = wr (setC M 6 (rdF (M 77) f (M 6) wh.toNat)) 0 9 (if wh = n then 0 else faZ l (M 76 1)))) := by
  obtain ⟨n0, n1, k0, k1, f0, f1, r0, r1, s0, s1, hA⟩ := pkd_3 hI
  refine loopZ wh ?_
  intro i h0 h1 ih
  refine w_iload ta_86 rfl rfl ?_
  refine w_iload ta_86 rfl rfl ?_
  refine w_icmp_ge ta_86 rfl ⟨by omega, by omega⟩ ⟨by omega, by omega⟩ (fun h115 => ?_) (fun h115 => ?_)
  · have e : i = wh := by omega
    subst e
    obtain ⟨n2, n3⟩ := id hn
    refine w_aload_n ta_86 rfl rfl ?_
    refine w_iload ta_86 rfl rfl ?_
    refine w_iload ta_86 rfl rfl ?_
    refine w_icmp_ne ta_86 rfl ⟨by omega, by omega⟩ ⟨by omega, by omega⟩ (fun h163 => ?_) (fun h163 => ?_)
    · refine w_aload ta_86 rfl rfl ?_
      refine w_iload_n ta_86 rfl rfl ?_
      refine w_cI [_, _] _ ta_86 rfl rfl rfl mt_36 rfl rfl rfl rfl (Nat.le_of_ble_eq_true rfl) (fun _ => rfl) rfl (c_faultAs_2 _ (setC M 6 _) l0 l1 z0 z1 l hl) ?_
      rintro v M2 ⟨hv, rfl⟩
      have hv : v = faZ l (M 76 1) := hv
      refine w_putI 9 ta_86 rfl rfl rfl ?_
      refine w_iload ta_86 rfl rfl ?_
      refine w_iret ta_86 rfl (Or.inl rfl) ?_
      refine ⟨_, rfl, rfl, ?_⟩
      first
        | rw [if_pos (by omega)]
        | rw [if_neg (by omega), ← hv]
    · refine w_iconst ta_86 rfl ?_
      refine w_goto ta_86 rfl ?_
      refine w_putI 9 ta_86 rfl rfl rfl ?_
      refine w_iload ta_86 rfl rfl ?_
      refine w_iret ta_86 rfl (Or.inl rfl) ?_
      refine ⟨_, rfl, rfl, ?_⟩
      first
        | rw [if_pos (by omega)]
        | rw [if_neg (by omega), ← hv]
  · have rk := hok i h0 h115
    unfold rdO at rk
    have ih := ih h115
    rw [show (i + 1).toNat = i.toNat + 1 by omega] at ih
    simp only [rdF] at ih
    rw [show ((i.toNat : Nat) : Int) = i by omega] at ih
    refine w_aload_n ta_86 rfl rfl ?_
    refine w_getR ta_86 rfl rfl ?_
    refine w_getR ta_86 rfl rfl ?_
    refine w_aload ta_86 rfl rfl ?_
    refine w_getR ta_86 rfl rfl ?_
    refine w_iload_n ta_86 rfl rfl ?_
    refine w_iconst ta_86 rfl ?_
    refine w_iload ta_86 rfl rfl ?_
    refine w_imul ta_86 rfl ?_
    refine w_iadd ta_86 rfl ?_
    refine w_ialoadv (v := M 77 (f + 2 * i)) ta_86 rfl rfl (by omega) (by omega) (by omega) rfl ?_
    refine w_aload ta_86 rfl rfl ?_
    refine w_getR ta_86 rfl rfl ?_
    refine w_iload_n ta_86 rfl rfl ?_
    refine w_iconst ta_86 rfl ?_
    refine w_iload ta_86 rfl rfl ?_
    refine w_imul ta_86 rfl ?_
    refine w_iadd ta_86 rfl ?_
    refine w_iconst ta_86 rfl ?_
    refine w_iadd ta_86 rfl ?_
    refine w_ialoadv (v := M 77 (f + 2 * i + 1)) ta_86 rfl rfl (by omega) (by omega) (by omega) rfl ?_
    refine w_iastore ta_86 rfl rfl (by omega) (by omega) (by omega) ?_
    refine w_iinc_7_8 ta_86 rfl rfl ?_
    refine w_goto ta_86 rfl ?_
    rw [wr_sc]
    exact ih
set_option maxHeartbeats 4000000 in
set_option maxRecDepth 20000 in
theorem c_read_2 (D : Nat) (M : Mem) (hI : PkI 3 M) (l0 : -1 ≤ M 76 1) (l1 : M 76 1 ≤ 2) (z0 : 0 ≤ M 76 2) (z1 : M 76 2 ≤ 40) (hr : ∀ j, 0 ≤ j → j < 40 → inR (M 77 j)) (l f n : Int) (h0 : 0 ≤ l) (h1 : l < 3) (hf : inR f) (h2 : 0 ≤ n) (h3 : n ≤ 20) : CI (D + 5) 86 [.inr (.inr 0), .inl 2, .inl l, .inl f, .inl n] M (fun v M' => (∃ i, 0 ≤ i ∧ i < whZ l (M 76 1) (M 76 2) f n ∧ ¬ rdO (M 77) f (M 3 4) (M 3 5) i ∧ (∀ j, 0 ≤ j → j < i → rdO (M 77) f (M 3 4) (M 3 5) j) ∧ v = -20 - i ∧ M' = M) ∨ ((∀ j, 0 ≤ j → j < whZ l (M 76 1) (M 76 2) f n → rdO (M 77) f (M 3 4) (M 3 5) j) ∧ v = whZ l (M 76 1) (M 76 2) f n ∧ M' = wr (setC M 6 (rdF (M 77) f (M 6) (whZ l (M 76 1) (M 76 2) f n).toNat)) 0 9 (if whZ l (M 76 1) (M 76 2) f n = n then 0 else faZ l (M 76 1)))) := by
  refine mk_C mt_86 rfl (Nat.le_of_ble_eq_true rfl) (L := [some _, some _, some _, some _, some _, none, none, none]) rfl ?_
  obtain ⟨n0, n1, k0, k1, f0, f1, r0, r1, s0, s1, hA⟩ := pkd_3 hI
  refine w_iload_n ta_86 rfl rfl ?_
  refine w_cI [_] _ ta_86 rfl rfl rfl mt_95 rfl rfl rfl rfl (Nat.le_of_ble_eq_true rfl) (fun q => by cases q) rfl (c_isSheet _ M 2 (by constructor <;> omega)) ?_
  rintro v M2 ⟨hv, rfl⟩
  refine w_if_eq ta_86 rfl ⟨by omega, by omega⟩ (fun h4 => ?_) (fun h4 => ?_)
  · exfalso; omega
  · refine w_iload_n ta_86 rfl rfl ?_
    refine w_cI [_] _ ta_86 rfl rfl rfl mt_96 rfl rfl rfl rfl (Nat.le_of_ble_eq_true rfl) (fun q => by cases q) rfl (c_isLane _ M2 l (by constructor <;> omega)) ?_
    rintro v2 M3 ⟨hv2, rfl⟩
    refine w_if_eq ta_86 rfl ⟨by omega, by omega⟩ (fun h11 => ?_) (fun h11 => ?_)
    · exfalso; omega
    · refine w_iload ta_86 rfl rfl ?_
      refine w_iconst ta_86 rfl ?_
      refine w_bipush ta_86 rfl ?_
      refine w_cI [_, _, _] _ ta_86 rfl rfl rfl mt_89 rfl rfl rfl rfl (Nat.le_of_ble_eq_true rfl) (fun q => by cases q) rfl (c_win _ n _ _ M3 (by constructor <;> omega) (by constructor <;> omega) (by constructor <;> omega)) ?_
      rintro v3 M4 ⟨hv3, rfl⟩
      refine w_if_ne ta_86 rfl ⟨by omega, by omega⟩ (fun h22 => ?_) (fun h22 => ?_)
      · refine w_aload_n ta_86 rfl rfl ?_
        refine w_getR ta_86 rfl rfl ?_
        refine w_iload_n ta_86 rfl rfl ?_
        refine w_aaload (d := 76) ta_86 rfl rfl (by decide) (by decide) (by decide) rfl ?_
        refine w_ast_5_8 ta_86 rfl rfl ?_
        refine w_aload ta_86 rfl rfl ?_
        refine w_iload_n ta_86 rfl rfl ?_
        refine w_iload_n ta_86 rfl rfl ?_
        refine w_iload ta_86 rfl rfl ?_
        refine w_cI [_, _, _, _] _ ta_86 rfl rfl rfl mt_35 rfl rfl rfl rfl (Nat.le_of_ble_eq_true rfl) (fun _ => rfl) rfl (c_wholePairs_2 _ M4 l0 l1 z0 z1 l f n (by constructor <;> omega) hf (by constructor <;> omega)) ?_
        rintro wh M5 ⟨hwh, rfl⟩
        have hwh : wh = whZ l (M5 76 1) (M5 76 2) f n := hwh
        have wb := whZ_b (l := l) (lane := M5 76 1) (size := M5 76 2) (f := f) h2 h3
        rw [← hwh] at wb
        refine w_ist_6_8 ta_86 rfl rfl ?_
        refine w_iconst ta_86 rfl ?_
        refine w_ist_7_8 ta_86 rfl rfl ?_
        rw [← hwh]
        refine lp_read1_2 D M5 hI l0 l1 z0 z1 hr l f n wh wb.1 (by omega) (by omega) _ ?_ ?_ 0 (by omega) wb.1 (fun j j0 j1 => by omega)
        · intro i i0 i1 hb hk
          exact ⟨_, rfl, Or.inl ⟨i, i0, i1, hb, hk, rfl, rfl⟩⟩
        · intro hok
          have q := lp_read2_2 D M5 hI l0 l1 z0 z1 hr l f n wh wb.1 (by omega) (by omega) (by constructor <;> omega) (by constructor <;> omega) hok 0 (by omega) wb.1
          rw [show rdF (M5 77) f (M5 6) (0 : Int).toNat = M5 6 from rfl, sc_id] at q
          refine w_iconst ta_86 rfl ?_
          refine w_ist_7_8 ta_86 rfl rfl ?_
          refine q.imp ?_
          rintro r M' ⟨w, hr2, hw2, hM'⟩
          exact ⟨w, hr2, Or.inr ⟨hok, hw2, hM'⟩⟩
      · exfalso; omega
set_option maxHeartbeats 4000000 in
set_option maxRecDepth 20000 in
theorem c_sheet_3 (D : Nat) (M : Mem) (l n : Int) (h0 : 0 ≤ l) (h1 : l < 3) (h2 : n ≤ 40) (h3 : 0 ≤ n) : CI (D + 2) 84 [.inr (.inr 0), .inl 3, .inl l, .inl n] M (fun v M' => v = 1 ∧ M' = setC (wr (wr M 78 1 l) 78 2 n) 79 (filF (M 79) 0 40)) := by
  refine mk_C mt_84 rfl (Nat.le_of_ble_eq_true rfl) (L := [some _, some _, some _, some _]) rfl ?_
  refine w_iload_n ta_84 rfl rfl ?_
  refine w_cI [_] _ ta_84 rfl rfl rfl mt_95 rfl rfl rfl rfl (Nat.le_of_ble_eq_true rfl) (fun q => by cases q) rfl (c_isSheet _ M 3 (by constructor <;> omega)) ?_
  rintro v M2 ⟨hv, rfl⟩
  refine w_if_eq ta_84 rfl ⟨by omega, by omega⟩ (fun h4 => ?_) (fun h4 => ?_)
  · exfalso; omega
  · refine w_iload_n ta_84 rfl rfl ?_
    refine w_cI [_] _ ta_84 rfl rfl rfl mt_96 rfl rfl rfl rfl (Nat.le_of_ble_eq_true rfl) (fun q => by cases q) rfl (c_isLane _ M2 l (by constructor <;> omega)) ?_
    rintro v2 M3 ⟨hv2, rfl⟩
    refine w_if_eq ta_84 rfl ⟨by omega, by omega⟩ (fun h11 => ?_) (fun h11 => ?_)
    · exfalso; omega
    · refine w_iload_n ta_84 rfl rfl ?_
      refine w_bipush ta_84 rfl ?_
      refine w_icmp_le ta_84 rfl ⟨by omega, by omega⟩ ⟨by omega, by omega⟩ (fun h17 => ?_) (fun h17 => ?_)
      · refine w_iload_n ta_84 rfl rfl ?_
        refine w_if_ge ta_84 rfl ⟨by omega, by omega⟩ (fun h23 => ?_) (fun h23 => ?_)
        · refine w_aload_n ta_84 rfl rfl ?_
          refine w_getR ta_84 rfl rfl ?_
          refine w_iload_n ta_84 rfl rfl ?_
          refine w_aaload (d := 78) ta_84 rfl rfl (by decide) (by decide) (by decide) rfl ?_
          refine w_iload_n ta_84 rfl rfl ?_
          refine w_iload_n ta_84 rfl rfl ?_
          refine w_cV [_, _, _] _ ta_84 rfl rfl rfl mt_33 rfl rfl rfl rfl (Nat.le_of_ble_eq_true rfl) (fun _ => rfl) rfl (c_renew_3 _ M3 l n) ?_
          rintro M4 hM
          refine w_iconst ta_84 rfl ?_
          refine w_iret ta_84 rfl (Or.inl rfl) ?_
          exact ⟨_, rfl, rfl, hM⟩
        · exfalso; omega
      · exfalso; omega
set_option maxHeartbeats 4000000 in
set_option maxRecDepth 20000 in
theorem c_lay_3 (D : Nat) (M : Mem) (l0 : -1 ≤ M 78 1) (l1 : M 78 1 ≤ 2) (z0 : 0 ≤ M 78 2) (z1 : M 78 2 ≤ 40) (i v : Int) (hi : inR i) : CI (D + 2) 85 [.inr (.inr 0), .inl 3, .inl i, .inl v] M (fun w M' => (M 78 1 = -1 ∧ w = -11 ∧ M' = M) ∨ (M 78 1 ≠ -1 ∧ ¬ (0 ≤ i ∧ i < M 78 2) ∧ w = -12 ∧ M' = M) ∨ (M 78 1 ≠ -1 ∧ (0 ≤ i ∧ i < M 78 2) ∧ w = 1 ∧ M' = wr M 79 i (laV (M 78 1) v))) := by
  refine mk_C mt_85 rfl (Nat.le_of_ble_eq_true rfl) (L := [some _, some _, some _, some _, none]) rfl ?_
  refine w_iload_n ta_85 rfl rfl ?_
  refine w_cI [_] _ ta_85 rfl rfl rfl mt_95 rfl rfl rfl rfl (Nat.le_of_ble_eq_true rfl) (fun q => by cases q) rfl (c_isSheet _ M 3 (by constructor <;> omega)) ?_
  rintro vw M2 ⟨hvw, rfl⟩
  refine w_if_ne ta_85 rfl ⟨by omega, by omega⟩ (fun h4 => ?_) (fun h4 => ?_)
  · refine w_aload_n ta_85 rfl rfl ?_
    refine w_getR ta_85 rfl rfl ?_
    refine w_iload_n ta_85 rfl rfl ?_
    refine w_aaload (d := 78) ta_85 rfl rfl (by decide) (by decide) (by decide) rfl ?_
    refine w_iload_n ta_85 rfl rfl ?_
    refine w_iload_n ta_85 rfl rfl ?_
    refine w_cI [_, _, _] _ ta_85 rfl rfl rfl mt_34 rfl rfl rfl rfl (Nat.le_of_ble_eq_true rfl) (fun _ => rfl) rfl (c_putAt_3 _ M2 l0 l1 z0 z1 i v hi) ?_
    rintro w M3 hw
    refine w_ist_4_5 ta_85 rfl rfl ?_
    refine w_iload ta_85 rfl rfl ?_
    refine w_if_ne ta_85 rfl (by constructor <;> omega) (fun h24 => ?_) (fun h24 => ?_)
    · refine w_bipush ta_85 rfl ?_
      refine w_iload ta_85 rfl rfl ?_
      refine w_isub ta_85 rfl ?_
      refine w_iret ta_85 rfl (Or.inl rfl) ?_
      refine ⟨_, rfl, ?_⟩
      rcases hw with ⟨a, rfl, rfl⟩ | ⟨a, b, rfl, rfl⟩ | ⟨a, b, rfl, hM⟩
      · first
          | exact Or.inl ⟨a, rfl, rfl⟩
          | (exfalso; omega)
      · first
          | exact Or.inr (Or.inl ⟨a, b, rfl, rfl⟩)
          | (exfalso; omega)
      · first
          | exact Or.inr (Or.inr ⟨a, b, rfl, hM⟩)
          | (exfalso; omega)
    · refine w_iconst ta_85 rfl ?_
      refine w_goto ta_85 rfl ?_
      refine w_iret ta_85 rfl (Or.inl rfl) ?_
      refine ⟨_, rfl, ?_⟩
      rcases hw with ⟨a, rfl, rfl⟩ | ⟨a, b, rfl, rfl⟩ | ⟨a, b, rfl, hM⟩
      · first
          | exact Or.inl ⟨a, rfl, rfl⟩
          | (exfalso; omega)
      · first
          | exact Or.inr (Or.inl ⟨a, b, rfl, rfl⟩)
          | (exfalso; omega)
      · first
          | exact Or.inr (Or.inr ⟨a, b, rfl, hM⟩)
          | (exfalso; omega)
  · exfalso; omega
set_option maxHeartbeats 4000000 in
set_option maxRecDepth 20000 in
theorem lp_read1_3 (D : Nat) (M : Mem) (hI : PkI 3 M) (l0 : -1 ≤ M 78 1) (l1 : M 78 1 ≤ 2) (z0 : 0 ≤ M 78 2) (z1 : M 78 2 ≤ 40) (hr : ∀ j, 0 ≤ j → j < 40 → inR (M 79 j)) (l f n wh : Int) (hw0 : 0 ≤ wh) (hw1 : wh ≤ 20) (hw2 : wh = 0 ∨ (0 ≤ f ∧ f + 2 * wh ≤ M 78 2)) (P : Option AV → Mem → Prop) (hB : ∀ i, 0 ≤ i → i < wh → ¬ rdO (M 79) f (M 3 4) (M 3 5) i → (∀ j, 0 ≤ j → j < i → rdO (M 79) f (M 3 4) (M 3 5) j) → P (some (.inl (-20 - i))) M) (hG : (∀ j, 0 ≤ j → j < wh → rdO (M 79) f (M 3 4) (M 3 5) j) → Wp (D + 5) 86 (108, [some (.inr (.inr 0)), some (.inl 3), some (.inl l), some (.inl f), some (.inl n), some (.inr (.inr 78)), some (.inl wh), some (.inl wh)], [], M) P) : ∀ i : Int, 0 ≤ i → i ≤ wh → (∀ j, 0 ≤ j → j < i → rdO (M 79) f (M 3 4) (M 3 5) j) → Wp (D + 5) 86 (49, [some (.inr (.inr 0)), some (.inl 3), some (.inl l), some (.inl f), some (.inl n), some (.inr (.inr 78)), some (.inl wh), some (.inl i)], [], M) P := by
  obtain ⟨n0, n1, k0, k1, f0, f1, r0, r1, s0, s1, hA⟩ := pkd_3 hI
  refine loopZ wh ?_
  intro i h0 h1 ih hK
  refine w_iload ta_86 rfl rfl ?_
  refine w_iload ta_86 rfl rfl ?_
  refine w_icmp_ge ta_86 rfl ⟨by omega, by omega⟩ ⟨by omega, by omega⟩ (fun h53 => ?_) (fun h53 => ?_)
  · have e : i = wh := by omega
    subst e
    exact hG hK
  · obtain ⟨a0, a1⟩ := hr (f + 2 * i) (by omega) (by omega)
    obtain ⟨b0, b1⟩ := hr (f + 2 * i + 1) (by omega) (by omega)
    refine w_aload_n ta_86 rfl rfl ?_
    refine w_aload ta_86 rfl rfl ?_
    refine w_getR ta_86 rfl rfl ?_
    refine w_iload_n ta_86 rfl rfl ?_
    refine w_iconst ta_86 rfl ?_
    refine w_iload ta_86 rfl rfl ?_
    refine w_imul ta_86 rfl ?_
    refine w_iadd ta_86 rfl ?_
    refine w_iaload ta_86 rfl rfl (by omega) (by omega) (by omega) ?_
    refine w_cI [_, _] _ ta_86 rfl rfl rfl mt_90 rfl rfl rfl rfl (Nat.le_of_ble_eq_true rfl) (fun _ => rfl) rfl (c_isCell _ M hI _ ⟨a0, a1⟩) ?_
    rintro v M2 ⟨hv, rfl⟩
    refine w_if_eq ta_86 rfl ⟨by omega, by omega⟩ (fun h72 => ?_) (fun h72 => ?_)
    · refine w_bipush ta_86 rfl ?_
      refine w_iload ta_86 rfl rfl ?_
      refine w_isub ta_86 rfl ?_
      refine w_iret ta_86 rfl (Or.inl rfl) ?_
      exact hB i h0 h53 (fun q => by unfold rdO at q; omega) hK
    · refine w_aload_n ta_86 rfl rfl ?_
      refine w_aload ta_86 rfl rfl ?_
      refine w_getR ta_86 rfl rfl ?_
      refine w_iload_n ta_86 rfl rfl ?_
      refine w_iconst ta_86 rfl ?_
      refine w_iload ta_86 rfl rfl ?_
      refine w_imul ta_86 rfl ?_
      refine w_iadd ta_86 rfl ?_
      refine w_iconst ta_86 rfl ?_
      refine w_iadd ta_86 rfl ?_
      refine w_iaload ta_86 rfl rfl (by omega) (by omega) (by omega) ?_
      refine w_cI [_, _] _ ta_86 rfl rfl rfl mt_91 rfl rfl rfl rfl (Nat.le_of_ble_eq_true rfl) (fun _ => rfl) rfl (c_isGroup _ M2 hI _ ⟨b0, b1⟩) ?_
      rintro v2 M3 ⟨hv2, rfl⟩
      refine w_if_ne ta_86 rfl ⟨by omega, by omega⟩ (fun h93 => ?_) (fun h93 => ?_)
      · refine w_iinc_7_8 ta_86 rfl rfl ?_
        refine w_goto ta_86 rfl ?_
        exact ih h53 (fun j j0 j1 => by
          by_cases e : j = i
          · subst e; exact ⟨by omega, by omega⟩
          · exact hK j j0 (by omega))
      · refine w_bipush ta_86 rfl ?_
        refine w_iload ta_86 rfl rfl ?_
        refine w_isub ta_86 rfl ?_
        refine w_iret ta_86 rfl (Or.inl rfl) ?_
        exact hB i h0 h53 (fun q => by unfold rdO at q; omega) hK
set_option maxHeartbeats 4000000 in
set_option maxRecDepth 20000 in
theorem lp_read2_3 (D : Nat) (M : Mem) (hI : PkI 3 M) (l0 : -1 ≤ M 78 1) (l1 : M 78 1 ≤ 2) (z0 : 0 ≤ M 78 2) (z1 : M 78 2 ≤ 40) (hr : ∀ j, 0 ≤ j → j < 40 → inR (M 79 j)) (l f n wh : Int) (hw0 : 0 ≤ wh) (hw1 : wh ≤ 20) (hw2 : wh = 0 ∨ (0 ≤ f ∧ f + 2 * wh ≤ M 78 2)) (hl : inR l) (hn : inR n) (hok : ∀ j, 0 ≤ j → j < wh → rdO (M 79) f (M 3 4) (M 3 5) j) : ∀ i : Int, 0 ≤ i → i ≤ wh → Wp (D + 5) 86 (111, [some (.inr (.inr 0)), some (.inl 3), some (.inl l), some (.inl f), some (.inl n), some (.inr (.inr 78)), some (.inl wh), some (.inl i)], [], setC M 6 (rdF (M 79) f (M 6) i.toNat)) (fun r M' => ∃ v, r = some (.inl v) ∧ (v = wh ∧ M' = wr (setC M 6 (rdF (M 79) f (M 6) wh.toNat)) 0 9 (if wh = n then 0 else faZ l (M 78 1)))) := by
  obtain ⟨n0, n1, k0, k1, f0, f1, r0, r1, s0, s1, hA⟩ := pkd_3 hI
  refine loopZ wh ?_
  intro i h0 h1 ih
  refine w_iload ta_86 rfl rfl ?_
  refine w_iload ta_86 rfl rfl ?_
  refine w_icmp_ge ta_86 rfl ⟨by omega, by omega⟩ ⟨by omega, by omega⟩ (fun h115 => ?_) (fun h115 => ?_)
  · have e : i = wh := by omega
    subst e
    obtain ⟨n2, n3⟩ := id hn
    refine w_aload_n ta_86 rfl rfl ?_
    refine w_iload ta_86 rfl rfl ?_
    refine w_iload ta_86 rfl rfl ?_
    refine w_icmp_ne ta_86 rfl ⟨by omega, by omega⟩ ⟨by omega, by omega⟩ (fun h163 => ?_) (fun h163 => ?_)
    · refine w_aload ta_86 rfl rfl ?_
      refine w_iload_n ta_86 rfl rfl ?_
      refine w_cI [_, _] _ ta_86 rfl rfl rfl mt_36 rfl rfl rfl rfl (Nat.le_of_ble_eq_true rfl) (fun _ => rfl) rfl (c_faultAs_3 _ (setC M 6 _) l0 l1 z0 z1 l hl) ?_
      rintro v M2 ⟨hv, rfl⟩
      have hv : v = faZ l (M 78 1) := hv
      refine w_putI 9 ta_86 rfl rfl rfl ?_
      refine w_iload ta_86 rfl rfl ?_
      refine w_iret ta_86 rfl (Or.inl rfl) ?_
      refine ⟨_, rfl, rfl, ?_⟩
      first
        | rw [if_pos (by omega)]
        | rw [if_neg (by omega), ← hv]
    · refine w_iconst ta_86 rfl ?_
      refine w_goto ta_86 rfl ?_
      refine w_putI 9 ta_86 rfl rfl rfl ?_
      refine w_iload ta_86 rfl rfl ?_
      refine w_iret ta_86 rfl (Or.inl rfl) ?_
      refine ⟨_, rfl, rfl, ?_⟩
      first
        | rw [if_pos (by omega)]
        | rw [if_neg (by omega), ← hv]
  · have rk := hok i h0 h115
    unfold rdO at rk
    have ih := ih h115
    rw [show (i + 1).toNat = i.toNat + 1 by omega] at ih
    simp only [rdF] at ih
    rw [show ((i.toNat : Nat) : Int) = i by omega] at ih
    refine w_aload_n ta_86 rfl rfl ?_
    refine w_getR ta_86 rfl rfl ?_
    refine w_getR ta_86 rfl rfl ?_
    refine w_aload ta_86 rfl rfl ?_
    refine w_getR ta_86 rfl rfl ?_
    refine w_iload_n ta_86 rfl rfl ?_
    refine w_iconst ta_86 rfl ?_
    refine w_iload ta_86 rfl rfl ?_
    refine w_imul ta_86 rfl ?_
    refine w_iadd ta_86 rfl ?_
    refine w_ialoadv (v := M 79 (f + 2 * i)) ta_86 rfl rfl (by omega) (by omega) (by omega) rfl ?_
    refine w_aload ta_86 rfl rfl ?_
    refine w_getR ta_86 rfl rfl ?_
    refine w_iload_n ta_86 rfl rfl ?_
    refine w_iconst ta_86 rfl ?_
    refine w_iload ta_86 rfl rfl ?_
    refine w_imul ta_86 rfl ?_
    refine w_iadd ta_86 rfl ?_
    refine w_iconst ta_86 rfl ?_
    refine w_iadd ta_86 rfl ?_
    refine w_ialoadv (v := M 79 (f + 2 * i + 1)) ta_86 rfl rfl (by omega) (by omega) (by omega) rfl ?_
    refine w_iastore ta_86 rfl rfl (by omega) (by omega) (by omega) ?_
    refine w_iinc_7_8 ta_86 rfl rfl ?_
    refine w_goto ta_86 rfl ?_
    rw [wr_sc]
    exact ih
set_option maxHeartbeats 4000000 in
set_option maxRecDepth 20000 in
theorem c_read_3 (D : Nat) (M : Mem) (hI : PkI 3 M) (l0 : -1 ≤ M 78 1) (l1 : M 78 1 ≤ 2) (z0 : 0 ≤ M 78 2) (z1 : M 78 2 ≤ 40) (hr : ∀ j, 0 ≤ j → j < 40 → inR (M 79 j)) (l f n : Int) (h0 : 0 ≤ l) (h1 : l < 3) (hf : inR f) (h2 : 0 ≤ n) (h3 : n ≤ 20) : CI (D + 5) 86 [.inr (.inr 0), .inl 3, .inl l, .inl f, .inl n] M (fun v M' => (∃ i, 0 ≤ i ∧ i < whZ l (M 78 1) (M 78 2) f n ∧ ¬ rdO (M 79) f (M 3 4) (M 3 5) i ∧ (∀ j, 0 ≤ j → j < i → rdO (M 79) f (M 3 4) (M 3 5) j) ∧ v = -20 - i ∧ M' = M) ∨ ((∀ j, 0 ≤ j → j < whZ l (M 78 1) (M 78 2) f n → rdO (M 79) f (M 3 4) (M 3 5) j) ∧ v = whZ l (M 78 1) (M 78 2) f n ∧ M' = wr (setC M 6 (rdF (M 79) f (M 6) (whZ l (M 78 1) (M 78 2) f n).toNat)) 0 9 (if whZ l (M 78 1) (M 78 2) f n = n then 0 else faZ l (M 78 1)))) := by
  refine mk_C mt_86 rfl (Nat.le_of_ble_eq_true rfl) (L := [some _, some _, some _, some _, some _, none, none, none]) rfl ?_
  obtain ⟨n0, n1, k0, k1, f0, f1, r0, r1, s0, s1, hA⟩ := pkd_3 hI
  refine w_iload_n ta_86 rfl rfl ?_
  refine w_cI [_] _ ta_86 rfl rfl rfl mt_95 rfl rfl rfl rfl (Nat.le_of_ble_eq_true rfl) (fun q => by cases q) rfl (c_isSheet _ M 3 (by constructor <;> omega)) ?_
  rintro v M2 ⟨hv, rfl⟩
  refine w_if_eq ta_86 rfl ⟨by omega, by omega⟩ (fun h4 => ?_) (fun h4 => ?_)
  · exfalso; omega
  · refine w_iload_n ta_86 rfl rfl ?_
    refine w_cI [_] _ ta_86 rfl rfl rfl mt_96 rfl rfl rfl rfl (Nat.le_of_ble_eq_true rfl) (fun q => by cases q) rfl (c_isLane _ M2 l (by constructor <;> omega)) ?_
    rintro v2 M3 ⟨hv2, rfl⟩
    refine w_if_eq ta_86 rfl ⟨by omega, by omega⟩ (fun h11 => ?_) (fun h11 => ?_)
    · exfalso; omega
    · refine w_iload ta_86 rfl rfl ?_
      refine w_iconst ta_86 rfl ?_
      refine w_bipush ta_86 rfl ?_
      refine w_cI [_, _, _] _ ta_86 rfl rfl rfl mt_89 rfl rfl rfl rfl (Nat.le_of_ble_eq_true rfl) (fun q => by cases q) rfl (c_win _ n _ _ M3 (by constructor <;> omega) (by constructor <;> omega) (by constructor <;> omega)) ?_
      rintro v3 M4 ⟨hv3, rfl⟩
      refine w_if_ne ta_86 rfl ⟨by omega, by omega⟩ (fun h22 => ?_) (fun h22 => ?_)
      · refine w_aload_n ta_86 rfl rfl ?_
        refine w_getR ta_86 rfl rfl ?_
        refine w_iload_n ta_86 rfl rfl ?_
        refine w_aaload (d := 78) ta_86 rfl rfl (by decide) (by decide) (by decide) rfl ?_
        refine w_ast_5_8 ta_86 rfl rfl ?_
        refine w_aload ta_86 rfl rfl ?_
        refine w_iload_n ta_86 rfl rfl ?_
        refine w_iload_n ta_86 rfl rfl ?_
        refine w_iload ta_86 rfl rfl ?_
        refine w_cI [_, _, _, _] _ ta_86 rfl rfl rfl mt_35 rfl rfl rfl rfl (Nat.le_of_ble_eq_true rfl) (fun _ => rfl) rfl (c_wholePairs_3 _ M4 l0 l1 z0 z1 l f n (by constructor <;> omega) hf (by constructor <;> omega)) ?_
        rintro wh M5 ⟨hwh, rfl⟩
        have hwh : wh = whZ l (M5 78 1) (M5 78 2) f n := hwh
        have wb := whZ_b (l := l) (lane := M5 78 1) (size := M5 78 2) (f := f) h2 h3
        rw [← hwh] at wb
        refine w_ist_6_8 ta_86 rfl rfl ?_
        refine w_iconst ta_86 rfl ?_
        refine w_ist_7_8 ta_86 rfl rfl ?_
        rw [← hwh]
        refine lp_read1_3 D M5 hI l0 l1 z0 z1 hr l f n wh wb.1 (by omega) (by omega) _ ?_ ?_ 0 (by omega) wb.1 (fun j j0 j1 => by omega)
        · intro i i0 i1 hb hk
          exact ⟨_, rfl, Or.inl ⟨i, i0, i1, hb, hk, rfl, rfl⟩⟩
        · intro hok
          have q := lp_read2_3 D M5 hI l0 l1 z0 z1 hr l f n wh wb.1 (by omega) (by omega) (by constructor <;> omega) (by constructor <;> omega) hok 0 (by omega) wb.1
          rw [show rdF (M5 79) f (M5 6) (0 : Int).toNat = M5 6 from rfl, sc_id] at q
          refine w_iconst ta_86 rfl ?_
          refine w_ist_7_8 ta_86 rfl rfl ?_
          refine q.imp ?_
          rintro r M' ⟨w, hr2, hw2, hM'⟩
          exact ⟨w, hr2, Or.inr ⟨hok, hw2, hM'⟩⟩
      · exfalso; omega
def coZ (w : Int) (im : Int) (n k : Int) (tl lane size : Int) (ch has home : Int → Int) : Int :=
  if w = 0 then im else if w = 1 then egZ home n k else if w = 2 then tl else if w = 3 then (if lane = -1 then -4 else size) else
  if w = 4 then blZ has ch n else if w = 5 then gcZ ch n else -1
set_option maxHeartbeats 4000000 in
set_option maxRecDepth 20000 in
theorem c_count (D : Nat) (M : Mem) (hI : PkI 3 M) (b : ∀ j, 0 ≤ j → j < 2 → M 25 j = 0 ∨ M 25 j = 1) (l0 : -1 ≤ M 72 1) (l1 : M 72 1 ≤ 2) (x : Int) (hx : inR x) : CI (D + 5) 88 [.inr (.inr 0), .inl x] M (fun v M' => v = coZ x (sumZ (M 25) 2) (M 3 4) (M 3 5) (M 1 1) (M 72 1) (M 72 2) (M 4) (M 5) (M 6) ∧ M' = M) := by
  refine mk_C mt_88 rfl (Nat.le_of_ble_eq_true rfl) (L := [some _, some _]) rfl ?_
  obtain ⟨n0, n1, k0, k1, f0, f1, r0, r1, s0, s1, hA⟩ := pkd_3 hI
  obtain ⟨x0, x1⟩ := id hx
  refine w_iload_n ta_88 rfl rfl ?_
  rcases (show x = 0 ∨ x = 1 ∨ x = 2 ∨ x = 3 ∨ x = 4 ∨ x = 5 ∨ (x < 0 ∨ 5 < x) by omega) with h1 | h1 | h1 | h1 | h1 | h1 | h1
  · refine w_tsw 40 ta_88 rfl hx (by rw [h1]; rfl) ?_
    refine w_aload_n ta_88 rfl rfl ?_
    refine w_cI [_] _ ta_88 rfl rfl rfl mt_100 rfl rfl rfl rfl (Nat.le_of_ble_eq_true rfl) (fun _ => rfl) rfl (c_kept _ M b) ?_
    rintro v M2 ⟨rfl, rfl⟩
    refine w_iret ta_88 rfl (Or.inl rfl) ?_
    exact ⟨_, rfl, by rw [h1]; rfl, rfl⟩
  · refine w_tsw 45 ta_88 rfl hx (by rw [h1]; rfl) ?_
    refine w_aload_n ta_88 rfl rfl ?_
    refine w_getR ta_88 rfl rfl ?_
    refine w_cI [_] _ ta_88 rfl rfl rfl mt_27 rfl rfl rfl rfl (Nat.le_of_ble_eq_true rfl) (fun _ => rfl) rfl (c_emptyGroups _ M hI) ?_
    rintro v M2 ⟨rfl, rfl⟩
    refine w_iret ta_88 rfl (Or.inl rfl) ?_
    exact ⟨_, rfl, by rw [h1]; rfl, rfl⟩
  · refine w_tsw 53 ta_88 rfl hx (by rw [h1]; rfl) ?_
    refine w_aload_n ta_88 rfl rfl ?_
    refine w_getR ta_88 rfl rfl ?_
    refine w_getI 1 ta_88 rfl rfl rfl ?_
    refine w_iret ta_88 rfl (Or.inl rfl) ?_
    exact ⟨_, rfl, by rw [h1]; rfl, rfl⟩
  · refine w_tsw 61 ta_88 rfl hx (by rw [h1]; rfl) ?_
    refine w_aload_n ta_88 rfl rfl ?_
    refine w_getR ta_88 rfl rfl ?_
    refine w_iconst ta_88 rfl ?_
    refine w_aaload (d := 72) ta_88 rfl rfl (by decide) (by decide) (by decide) rfl ?_
    refine w_getI 1 ta_88 rfl rfl rfl ?_
    refine w_iconst ta_88 rfl ?_
    refine w_icmp_ne ta_88 rfl ⟨by omega, by omega⟩ ⟨by omega, by omega⟩ (fun h71 => ?_) (fun h71 => ?_)
    · refine w_aload_n ta_88 rfl rfl ?_
      refine w_getR ta_88 rfl rfl ?_
      refine w_iconst ta_88 rfl ?_
      refine w_aaload (d := 72) ta_88 rfl rfl (by decide) (by decide) (by decide) rfl ?_
      refine w_getI 2 ta_88 rfl rfl rfl ?_
      refine w_iret ta_88 rfl (Or.inl rfl) ?_
      refine ⟨_, rfl, ?_, rfl⟩
      rw [h1, show coZ 3 (sumZ (M 25) 2) (M 3 4) (M 3 5) (M 1 1) (M 72 1) (M 72 2) (M 4) (M 5) (M 6) = (if M 72 1 = -1 then -4 else M 72 2) from rfl]
      first
        | rw [if_pos (by omega)]
        | rw [if_neg (by omega)]
    · refine w_bipush ta_88 rfl ?_
      refine w_goto ta_88 rfl ?_
      refine w_iret ta_88 rfl (Or.inl rfl) ?_
      refine ⟨_, rfl, ?_, rfl⟩
      rw [h1, show coZ 3 (sumZ (M 25) 2) (M 3 4) (M 3 5) (M 1 1) (M 72 1) (M 72 2) (M 4) (M 5) (M 6) = (if M 72 1 = -1 then -4 else M 72 2) from rfl]
      first
        | rw [if_pos (by omega)]
        | rw [if_neg (by omega)]
  · refine w_tsw 89 ta_88 rfl hx (by rw [h1]; rfl) ?_
    refine w_aload_n ta_88 rfl rfl ?_
    refine w_getR ta_88 rfl rfl ?_
    refine w_cI [_] _ ta_88 rfl rfl rfl mt_28 rfl rfl rfl rfl (Nat.le_of_ble_eq_true rfl) (fun _ => rfl) rfl (c_bled _ M hI) ?_
    rintro v M2 ⟨rfl, rfl⟩
    refine w_iret ta_88 rfl (Or.inl rfl) ?_
    exact ⟨_, rfl, by rw [h1]; rfl, rfl⟩
  · refine w_tsw 97 ta_88 rfl hx (by rw [h1]; rfl) ?_
    refine w_aload_n ta_88 rfl rfl ?_
    refine w_getR ta_88 rfl rfl ?_
    refine w_cI [_] _ ta_88 rfl rfl rfl mt_29 rfl rfl rfl rfl (Nat.le_of_ble_eq_true rfl) (fun _ => rfl) rfl (c_gch _ M hI) ?_
    rintro v M2 ⟨rfl, rfl⟩
    refine w_iret ta_88 rfl (Or.inl rfl) ?_
    exact ⟨_, rfl, by rw [h1]; rfl, rfl⟩
  · refine w_tsw 105 ta_88 rfl hx (if_pos h1) ?_
    refine w_iconst ta_88 rfl ?_
    refine w_iret ta_88 rfl (Or.inl rfl) ?_
    refine ⟨_, rfl, ?_, rfl⟩
    unfold coZ
    repeat rw [if_neg (by omega)]
