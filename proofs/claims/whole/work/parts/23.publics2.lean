/-! the class's publics, second half -/
theorem tkF_cg {home home' h h' : Int → Int} {n fl rt g : Int} (n0 : 0 ≤ n) (q : ∀ i, 0 ≤ i → i < n → home i = home' i ∧ h i = h' i) : tkB home n fl h g = tkB home' n fl h' g ∧ ∀ i, 0 ≤ i → i < n → tkF home n fl rt h g i = tkF home' n fl rt h' g i := by
  have e := stZ_cg (g := g) q
  have b := stZ_b home' h' g n0
  unfold tkB tkF
  rw [e]
  rcases b with b | b
  · rw [b]
    exact ⟨by simp, fun i h0 h1 => by simp [(q i h0 h1).2]⟩
  · rw [(q _ b.1 b.2.1).2]
    refine ⟨rfl, fun i h0 h1 => ?_⟩
    split
    · unfold upI
      split
      · rfl
      · exact (q i h0 h1).2
    · exact (q i h0 h1).2
theorem tHN_cg {home home' h h' s s' : Int → Int} {n fl rt lim : Int} {k : Nat} (n0 : 0 ≤ n) (q : ∀ i, 0 ≤ i → i < n → home i = home' i ∧ h i = h' i) (hs : ∀ g : Int, 0 ≤ g → g < k → s g = s' g) : ∀ g : Nat, g ≤ k → (∀ i, 0 ≤ i → i < n → tHN home n fl rt lim s h g i = tHN home' n fl rt lim s' h' g i) ∧ tAN home n fl rt lim s h g = tAN home' n fl rt lim s' h' g
  | 0, _ => ⟨fun i h0 h1 => (q i h0 h1).2, rfl⟩
  | g + 1, hg => by
    obtain ⟨ih1, ih2⟩ := tHN_cg (fl := fl) (rt := rt) (lim := lim) n0 q hs g (by omega)
    have t := tkF_cg (fl := fl) (rt := rt) (g := g) n0 (fun i h0 h1 => ⟨(q i h0 h1).1, ih1 i h0 h1⟩)
    have e := hs g (by omega) (by omega)
    simp only [tHN, tAN]
    rw [e, t.1, ih2]
    refine ⟨fun i h0 h1 => ?_, rfl⟩
    split
    · exact t.2 i h0 h1
    · exact ih1 i h0 h1
theorem tick_cg {home home' h h' : Int → Int} {n k fl rt sl : Int} (n0 : 0 ≤ n) (k0 : 1 ≤ k) (q : ∀ i, 0 ≤ i → i < n → home i = home' i ∧ h i = h' i) : (∀ i, 0 ≤ i → i < n → tickH home n k fl rt sl h i = tickH home' n k fl rt sl h' i) ∧ tickA home n k fl rt sl h = tickA home' n k fl rt sl h' := by
  have e : ∀ g, sumG h home n g = sumG h' home' n g := fun g => sumG_cg g (fun i h0 h1 => (q i h0 h1).2) (fun i h0 h1 => (q i h0 h1).1)
  have el : tkL home h n k sl = tkL home' h' n k sl := by unfold tkL; rw [lsZ_cg k0 (fun g _ _ => e g)]
  unfold tickH tickA tH tA
  rw [el]
  exact tHN_cg (k := k.toNat) n0 q (fun g _ _ => e g) k.toNat (Nat.le_refl _)
theorem rt_cg {home home' : Int → Int} {n k fl rt sl : Int} (n0 : 0 ≤ n) (k0 : 1 ≤ k) (qh : ∀ i, 0 ≤ i → i < n → home i = home' i) : ∀ (m : Nat) (h h' : Int → Int), (∀ i, 0 ≤ i → i < n → h i = h' i) → rtC home n k fl rt sl m h = rtC home' n k fl rt sl m h' ∧ ∀ i, 0 ≤ i → i < n → rtH home n k fl rt sl m h i = rtH home' n k fl rt sl m h' i
  | 0, _, _, q => ⟨rfl, q⟩
  | m + 1, h, h', q => by
    obtain ⟨t1, t2⟩ := tick_cg (fl := fl) (rt := rt) (sl := sl) n0 k0 (fun i h0 h1 => ⟨qh i h0 h1, q i h0 h1⟩)
    have ih := rt_cg (fl := fl) (rt := rt) (sl := sl) n0 k0 qh m _ _ t1
    simp only [rtC, rtH]
    rw [t2, ih.1]
    refine ⟨rfl, fun i h0 h1 => ?_⟩
    split
    · exact t1 i h0 h1
    · exact ih.2 i h0 h1
theorem CpP.I {d q : Nat} {M M' : Mem} (h : CpP d q M M') (i : PkI q M) : PkI d M' := by
  obtain ⟨q1, q2, q3, q4, q5, q6, q7, q8, q9, q10, q11⟩ := i
  have e4 := h.2.1 4 (by omega) (by omega)
  have e5 := h.2.1 5 (by omega) (by omega)
  have e6 := h.2.1 6 (by omega) (by omega)
  have e7 := h.2.1 7 (by omega) (by omega)
  have e8 := h.2.1 8 (by omega) (by omega)
  unfold PkI
  rw [e4, e5, e6, e7, e8]
  refine ⟨q1, q2, q3, q4, q5, q6, q7, q8, q9, q10, fun i h0 h1 => ?_⟩
  have := h.2.2 i h0 (by omega)
  have := q11 i h0 h1
  omega
/-- what plan(what) answers -/
def plZ (w : Int) (n k fl rt sl : Int) (has home : Int → Int) : Int :=
  if w = 0 then rtC home n k fl rt sl 200 has else if w = 1 then sumZ has n - sumZ (rtH home n k fl rt sl 200 has) n else
  grZ (fun g => sumG (rtH home n k fl rt sl 200 has) home n g) k - lsZ (fun g => sumG (rtH home n k fl rt sl 200 has) home n g) k
theorem sumG_cg2 {v v' h h' : Int → Int} {n : Int} (hv : ∀ i, 0 ≤ i → i < n → v i = v' i) (hh : ∀ i, 0 ≤ i → i < n → h i = h' i) : (fun g => sumG v h n g) = (fun g => sumG v' h' n g) := funext fun g => sumG_cg g hv hh
set_option maxHeartbeats 4000000 in
set_option maxRecDepth 20000 in
theorem c_plan (D : Nat) (M : Mem) (hI : PkI 3 M) (x : Int) (hx : inR x) : CI (D + 7) 79 [.inr (.inr 0), .inl x] M (fun v M' => ((¬ (0 ≤ x ∧ x ≤ 2) ∧ v = -1) ∨ ((0 ≤ x ∧ x ≤ 2) ∧ v = plZ x (M 3 4) (M 3 5) (M 3 6) (M 3 7) (M 3 8) (M 5) (M 6))) ∧ Scr M M') := by
  refine mk_C mt_79 rfl (Nat.le_of_ble_eq_true rfl) (L := [some _, some _, none]) rfl ?_
  obtain ⟨n0, n1, k0, k1, f0, f1, r0, r1, s0, s1, hA⟩ := pkd_3 hI
  refine w_iload_n ta_79 rfl rfl ?_
  refine w_iconst ta_79 rfl ?_
  refine w_iconst ta_79 rfl ?_
  refine w_cI [_, _, _] _ ta_79 rfl rfl rfl mt_89 rfl rfl rfl rfl (Nat.le_of_ble_eq_true rfl) (fun q => by cases q) rfl (c_win _ x _ _ M hx (by constructor <;> omega) (by constructor <;> omega)) ?_
  rintro v M2 ⟨hv, rfl⟩
  refine w_if_ne ta_79 rfl ⟨by omega, by omega⟩ (fun h6 => ?_) (fun h6 => ?_)
  · refine w_aload_n ta_79 rfl rfl ?_
    refine w_getR ta_79 rfl rfl ?_
    refine w_aload_n ta_79 rfl rfl ?_
    refine w_getR ta_79 rfl rfl ?_
    refine w_cV [_, _] _ ta_79 rfl rfl rfl mt_14 rfl rfl rfl rfl (Nat.le_of_ble_eq_true rfl) (fun _ => rfl) rfl (c_copyFrom_8_3 _ M2) ?_
    rintro M3 hC
    have hI8 := hC.I hI
    have z4 := hC.2.1 4 (by omega) (by omega)
    have z5 := hC.2.1 5 (by omega) (by omega)
    have z6 := hC.2.1 6 (by omega) (by omega)
    have z7 := hC.2.1 7 (by omega) (by omega)
    have z8 := hC.2.1 8 (by omega) (by omega)
    have zh : ∀ i, 0 ≤ i → i < M2 3 4 → M3 11 i = M2 6 i := fun i h0 h1 => (hC.2.2 i h0 (by omega)).2.2
    have za : ∀ i, 0 ≤ i → i < M2 3 4 → M3 10 i = M2 5 i := fun i h0 h1 => (hC.2.2 i h0 (by omega)).2.1
    have rc := rt_cg (k := M2 3 5) (fl := M2 3 6) (rt := M2 3 7) (sl := M2 3 8) n0 (by omega) zh 200 (M3 10) (M2 5) za
    obtain ⟨u0, u1, u2, u3, u4, u5, u6, u7, u8, u9, uA⟩ := pkd_8 hI8
    have rb := rtH_b (home := M3 11) (k := M3 8 5) (sl := M3 8 8) u4 (show 0 ≤ M3 8 7 by omega) u0 200 (M3 10) (fun i h0 h1 => by have := uA i h0 h1; omega)
    refine w_aload_n ta_79 rfl rfl ?_
    refine w_getR ta_79 rfl rfl ?_
    refine w_sipush ta_79 rfl ?_
    refine w_cI [_, _] _ ta_79 rfl rfl rfl mt_30 rfl rfl rfl rfl (Nat.le_of_ble_eq_true rfl) (fun _ => rfl) rfl (c_runTicks_8 _ M3 hI8 200 (by omega) (by constructor <;> omega)) ?_
    rintro v2 M4 ⟨hv2, hT⟩
    rw [z4, z5, z6, z7, z8] at hv2 hT
    have hv2 : v2 = rtC (M2 6) (M2 3 4) (M2 3 5) (M2 3 6) (M2 3 7) (M2 3 8) 200 (M2 5) := hv2.trans rc.1
    rw [z4, z5, z7, z8] at rb
    rw [z6] at rb
    have hs : Scr M2 M4 := fun c hc => (hT.1 c (by omega) (by omega)).trans (hC.1 c (by omega) (by omega) (by omega) (by omega))
    have y3 : M4 3 = M2 3 := hs 3 (by omega)
    have y5 : M4 5 = M2 5 := hs 5 (by omega)
    have y8 : M4 8 = M3 8 := hT.1 8 (by decide) (by decide)
    have y11 : M4 11 = M3 11 := hT.1 11 (by decide) (by decide)
    have y10 : M4 10 = rtH (M3 11) (M2 3 4) (M2 3 5) (M2 3 6) (M2 3 7) (M2 3 8) 200 (M3 10) := hT.2
    have hI4 : PkI 8 M4 := hT.I hI8 (by rw [z4]; exact rb)
    refine w_istn_2_3 ta_79 rfl rfl ?_
    refine w_iload_n ta_79 rfl rfl ?_
    rcases (show x = 0 ∨ x = 1 ∨ (x ≠ 0 ∧ x ≠ 1) by omega) with h34 | h34 | h34
    · refine w_lsw 60 ta_79 rfl hx (by rw [h34]; rfl) ?_
      refine w_iload_n ta_79 rfl rfl ?_
      refine w_iret ta_79 rfl (Or.inl rfl) ?_
      exact ⟨_, rfl, Or.inr ⟨by omega, by rw [h34]; exact hv2⟩, hs⟩
    · refine w_lsw 62 ta_79 rfl hx (by rw [h34]; rfl) ?_
      refine w_aload_n ta_79 rfl rfl ?_
      refine w_getR ta_79 rfl rfl ?_
      refine w_getR ta_79 rfl rfl ?_
      refine w_aload_n ta_79 rfl rfl ?_
      refine w_getR ta_79 rfl rfl ?_
      refine w_getIv 4 (v := M2 3 4) ta_79 rfl rfl rfl (by rw [y3]) ?_
      refine w_cI [_, _] _ ta_79 rfl rfl rfl mt_101 rfl rfl rfl rfl (Nat.le_of_ble_eq_true rfl) (fun q => by cases q) rfl (c_total _ 5 16 (M2 3 4) M4 rfl (by decide) n0 (by omega)) ?_
      rintro v3 M5 ⟨hv3, rfl⟩
      refine w_aload_n ta_79 rfl rfl ?_
      refine w_getR ta_79 rfl rfl ?_
      refine w_getR ta_79 rfl rfl ?_
      refine w_aload_n ta_79 rfl rfl ?_
      refine w_getR ta_79 rfl rfl ?_
      refine w_getIv 4 (v := M2 3 4) ta_79 rfl rfl rfl (by rw [y8, z4]) ?_
      refine w_cI [_, _] _ ta_79 rfl rfl rfl mt_101 rfl rfl rfl rfl (Nat.le_of_ble_eq_true rfl) (fun q => by cases q) rfl (c_total _ 10 16 (M2 3 4) M5 rfl (by decide) n0 (by omega)) ?_
      rintro v4 M6 ⟨hv4, rfl⟩
      refine w_isub ta_79 rfl ?_
      refine w_iret ta_79 rfl (Or.inl rfl) ?_
      refine ⟨_, rfl, Or.inr ⟨by omega, ?_⟩, hs⟩
      rw [hv3, hv4, y5, y10, h34, sumZ_cg rc.2]
      rfl
    · refine w_lsw 98 ta_79 rfl hx (by show jmp 34 (Op.lookupswitch.offset [(0, 26), (1, 28)] 64 x) = 98; rw [Op.lookupswitch.offset_cons, if_neg (by omega), Op.lookupswitch.offset_cons, if_neg (by omega)]; rfl) ?_
      refine w_aload_n ta_79 rfl rfl ?_
      refine w_getR ta_79 rfl rfl ?_
      refine w_cI [_] _ ta_79 rfl rfl rfl mt_21 rfl rfl rfl rfl (Nat.le_of_ble_eq_true rfl) (fun _ => rfl) rfl (c_spread_8 _ M4 hI4) ?_
      rintro v3 M5 ⟨hv3, hS⟩
      refine w_iret ta_79 rfl (Or.inl rfl) ?_
      refine ⟨_, rfl, Or.inr ⟨by omega, ?_⟩, fun c hc => (hS.1 c (by omega)).trans (hs c hc)⟩
      rw [hv3, plZ, if_neg (by omega), if_neg (by omega)]
      have e : SG 8 M4 = fun g => sumG (rtH (M2 6) (M2 3 4) (M2 3 5) (M2 3 6) (M2 3 7) (M2 3 8) 200 (M2 5)) (M2 6) (M2 3 4) g := by
        rw [show SG 8 M4 = fun g => sumG (M4 10) (M4 11) (M4 8 4) g from rfl, y8, z4, y10, y11]
        exact sumG_cg2 rc.2 zh
      rw [e, y8, z5]
  · refine w_iconst ta_79 rfl ?_
    refine w_iret ta_79 rfl (Or.inl rfl) ?_
    exact ⟨_, rfl, Or.inl ⟨by omega, rfl⟩, Scr.rf _⟩
set_option maxHeartbeats 4000000 in
set_option maxRecDepth 20000 in
theorem c_fillP (D : Nat) (M : Mem) (hI : PkI 3 M) : CI (D + 4) 80 [.inr (.inr 0)] M (fun v M' => v = sumZ (M 4) (M 3 4) - sumZ (M 5) (M 3 4) ∧ M' = setC M 5 (cpI (M 4) (M 5) 0 0 (M 3 4))) := by
  refine mk_C mt_80 rfl (Nat.le_of_ble_eq_true rfl) (L := [some _, none]) rfl ?_
  obtain ⟨n0, n1, k0, k1, f0, f1, r0, r1, s0, s1, hA⟩ := pkd_3 hI
  refine w_aload_n ta_80 rfl rfl ?_
  refine w_getR ta_80 rfl rfl ?_
  refine w_getR ta_80 rfl rfl ?_
  refine w_aload_n ta_80 rfl rfl ?_
  refine w_getR ta_80 rfl rfl ?_
  refine w_getI 4 ta_80 rfl rfl rfl ?_
  refine w_cI [_, _] _ ta_80 rfl rfl rfl mt_101 rfl rfl rfl rfl (Nat.le_of_ble_eq_true rfl) (fun q => by cases q) rfl (c_total _ 4 16 (M 3 4) M rfl (by decide) n0 (by omega)) ?_
  rintro v M2 ⟨rfl, rfl⟩
  refine w_aload_n ta_80 rfl rfl ?_
  refine w_getR ta_80 rfl rfl ?_
  refine w_getR ta_80 rfl rfl ?_
  refine w_aload_n ta_80 rfl rfl ?_
  refine w_getR ta_80 rfl rfl ?_
  refine w_getI 4 ta_80 rfl rfl rfl ?_
  refine w_cI [_, _] _ ta_80 rfl rfl rfl mt_101 rfl rfl rfl rfl (Nat.le_of_ble_eq_true rfl) (fun q => by cases q) rfl (c_total _ 5 16 (M2 3 4) M2 rfl (by decide) n0 (by omega)) ?_
  rintro v M3 ⟨rfl, rfl⟩
  refine w_isub ta_80 rfl ?_
  refine w_istn_1_2 ta_80 rfl rfl ?_
  refine w_aload_n ta_80 rfl rfl ?_
  refine w_getR ta_80 rfl rfl ?_
  refine w_getR ta_80 rfl rfl ?_
  refine w_iconst ta_80 rfl ?_
  refine w_aload_n ta_80 rfl rfl ?_
  refine w_getR ta_80 rfl rfl ?_
  refine w_getR ta_80 rfl rfl ?_
  refine w_iconst ta_80 rfl ?_
  refine w_aload_n ta_80 rfl rfl ?_
  refine w_getR ta_80 rfl rfl ?_
  refine w_getI 4 ta_80 rfl rfl rfl ?_
  refine w_acopy ta_80 rfl rfl rfl (by omega) (by omega) (by omega) (by omega) (by omega) (by omega) (Nat.le_of_ble_eq_true rfl) ?_
  refine w_iload_n ta_80 rfl rfl ?_
  refine w_iret ta_80 rfl (Or.inl rfl) ?_
  exact ⟨_, rfl, rfl, rfl⟩
/-- the best exchange: most and found, as the pairs go by: E i j is the least sum behind the exchange of i and j -/
def btM (E : Int → Int → Int) (i : Int) : Nat → Int × Int → Int × Int
  | 0, a => a
  | d + 1, a => let b := btM E i d a; if b.1 < E i (i + 1 + d) then (E i (i + 1 + d), 100 * i + (i + 1 + d)) else b
def btR (E : Int → Int → Int) (n : Int) : Nat → Int × Int → Int × Int
  | 0, a => a
  | i + 1, a => btM E i (n - (i + 1)).toNat (btR E n i a)
theorem btM_cg {E E' : Int → Int → Int} {i n : Int} (i0 : 0 ≤ i) (h : ∀ j, 0 ≤ j → j < n → E i j = E' i j) (a : Int × Int) : ∀ d : Nat, i + 1 + d ≤ n → btM E i d a = btM E' i d a
  | 0, _ => rfl
  | d + 1, hd => by rw [btM, btM, btM_cg i0 h a d (by omega), h (i + 1 + d) (by omega) (by omega)]
theorem btR_cg {E E' : Int → Int → Int} {n : Int} (h : ∀ i j, 0 ≤ i → i < n → 0 ≤ j → j < n → E i j = E' i j) (a : Int × Int) : ∀ i : Nat, (i : Int) ≤ n → btR E n i a = btR E' n i a
  | 0, _ => rfl
  | i + 1, hi => by rw [btR, btR, btR_cg h a i (by omega), btM_cg (n := n) (by omega) (fun j j0 j1 => h i j (by omega) (by omega) j0 j1) _ _ (by omega)]
theorem btM_b {E : Int → Int → Int} {i n : Int} (h : ∀ j, 0 ≤ j → j < n → inR (E i j)) (i0 : 0 ≤ i) {a : Int × Int} (ha : inR a.1) : ∀ d : Nat, i + 1 + d ≤ n → inR (btM E i d a).1
  | 0, _ => ha
  | d + 1, hd => by
    have ih := btM_b h i0 ha d (by omega)
    unfold btM
    dsimp only
    split
    · exact h _ (by omega) (by omega)
    · exact ih
set_option maxHeartbeats 4000000 in
set_option maxRecDepth 20000 in
theorem lp_better2 (D : Nat) (M : Mem) (hI : PkI 3 M) (hE : ∀ i j, 0 ≤ i → i < M 3 4 → 0 ≤ j → j < M 3 4 → inR ((fun i j => lsZ (EX (SG 3 M) (M 6) (M 5) i j) (M 3 5)) i j)) (P : Option AV → Mem → Prop) (i : Int) (i0 : 0 ≤ i) (i1 : i < M 3 4) (a : Int × Int) (ha : inR a.1) (hP : ∀ N, (∀ c, c ≠ 7 → N c = M c) → ∀ q : Option AV, isLg q = false → Wp (D + 4) 72 (76, [some (.inr (.inr 0)), some (.inl (btM (fun i j => lsZ (EX (SG 3 M) (M 6) (M 5) i j) (M 3 5)) i (M 3 4 - (i + 1)).toNat a).1), some (.inl (btM (fun i j => lsZ (EX (SG 3 M) (M 6) (M 5) i j) (M 3 5)) i (M 3 4 - (i + 1)).toNat a).2), some (.inl i), some (.inl (M 3 4)), q], [], N) P) : ∀ j : Int, i + 1 ≤ j → j ≤ M 3 4 → ∀ N, (∀ c, c ≠ 7 → N c = M c) → ∀ q : Option AV, isLg q = false → Wp (D + 4) 72 (29, [some (.inr (.inr 0)), some (.inl (btM (fun i j => lsZ (EX (SG 3 M) (M 6) (M 5) i j) (M 3 5)) i (j - (i + 1)).toNat a).1), some (.inl (btM (fun i j => lsZ (EX (SG 3 M) (M 6) (M 5) i j) (M 3 5)) i (j - (i + 1)).toNat a).2), some (.inl i), some (.inl j), q], [], N) P := by
  obtain ⟨n0, n1, k0, k1, f0, f1, r0, r1, s0, s1, hA⟩ := pkd_3 hI
  refine loopO (i + 1) (M 3 4) ?_
  intro j h0 h1 ih N hN q0 hq0
  refine w_iload ta_72 rfl rfl ?_
  refine w_aload_n ta_72 rfl rfl ?_
  refine w_getR ta_72 rfl rfl ?_
  refine w_getIv 4 (v := M 3 4) ta_72 rfl rfl rfl (by rw [hN 3 (by decide)]) ?_
  refine w_icmp_ge ta_72 rfl ⟨by omega, by omega⟩ ⟨by omega, by omega⟩ (fun h38 => ?_) (fun h38 => ?_)
  · have e : j = M 3 4 := by omega
    subst e
    exact hP N hN q0 hq0
  · have e3 : N 3 = M 3 := hN 3 (by decide)
    have hI2 : PkI 3 N := hI.of (hN 3 (by decide)) (hN 4 (by decide)) (hN 5 (by decide)) (hN 6 (by decide))
    refine w_aload_n ta_72 rfl rfl ?_
    refine w_getR ta_72 rfl rfl ?_
    refine w_iload_n ta_72 rfl rfl ?_
    refine w_iload ta_72 rfl rfl ?_
    refine w_cI [_, _, _] _ ta_72 rfl rfl rfl mt_22 rfl rfl rfl rfl (Nat.le_of_ble_eq_true rfl) (fun _ => rfl) rfl (c_leastSumExchanged _ N hI2 i j i0 (by rw [e3]; exact i1) (by omega) (by rw [e3]; exact h38)) ?_
    rintro v N2 ⟨hv, hN2⟩
    have e5 : N 5 = M 5 := hN 5 (by decide)
    have e6 : N 6 = M 6 := hN 6 (by decide)
    have eS : SG 3 N = SG 3 M := by
      rw [show SG 3 N = fun g => sumG (N 5) (N 6) (N 3 4) g from rfl, e3, e5, e6]
      rfl
    rw [eS, e5, e6, e3] at hv
    obtain ⟨w0, w1⟩ : inR (lsZ (EX (SG 3 M) (M 6) (M 5) i j) (M 3 5)) := hE i j i0 i1 (by omega) h38
    rw [← hv] at w0 w1
    obtain ⟨y0, y1⟩ := btM_b (E := (fun i j => lsZ (EX (SG 3 M) (M 6) (M 5) i j) (M 3 5))) (n := M 3 4) (fun j j0 j1 => hE i j i0 i1 j0 j1) i0 ha (j - (i + 1)).toNat (by omega)
    have ih := ih h38
    rw [show (j + 1 - (i + 1)).toNat = (j - (i + 1)).toNat + 1 by omega] at ih
    simp only [btM] at ih
    rw [show i + 1 + (((j - (i + 1)).toNat : Nat) : Int) = j by omega, ← hv] at ih
    refine w_ist_5_6 ta_72 rfl rfl ?_
    refine w_iload ta_72 rfl rfl ?_
    refine w_iload_n ta_72 rfl rfl ?_
    refine w_icmp_le ta_72 rfl ⟨by omega, by omega⟩ ⟨by omega, by omega⟩ (fun h56 => ?_) (fun h56 => ?_)
    · refine w_iinc_4_6 ta_72 rfl rfl ?_
      refine w_goto ta_72 rfl ?_
      first
        | (rw [if_pos (by omega)] at ih; exact ih N2 (fun c hc => (hN2 c hc).trans (hN c hc)) _ rfl)
        | (rw [if_neg (by omega)] at ih; exact ih N2 (fun c hc => (hN2 c hc).trans (hN c hc)) _ rfl)
    · refine w_iload ta_72 rfl rfl ?_
      refine w_istn_1_6 ta_72 rfl rfl ?_
      refine w_bipush ta_72 rfl ?_
      refine w_iload_n ta_72 rfl rfl ?_
      refine w_imul ta_72 rfl ?_
      refine w_iload ta_72 rfl rfl ?_
      refine w_iadd ta_72 rfl ?_
      refine w_istn_2_6 ta_72 rfl rfl ?_
      refine w_iinc_4_6 ta_72 rfl rfl ?_
      refine w_goto ta_72 rfl ?_
      first
        | (rw [if_pos (by omega)] at ih; exact ih N2 (fun c hc => (hN2 c hc).trans (hN c hc)) _ rfl)
        | (rw [if_neg (by omega)] at ih; exact ih N2 (fun c hc => (hN2 c hc).trans (hN c hc)) _ rfl)
set_option maxHeartbeats 4000000 in
set_option maxRecDepth 20000 in
theorem lp_better1 (D : Nat) (M : Mem) (hI : PkI 3 M) (hE : ∀ i j, 0 ≤ i → i < M 3 4 → 0 ≤ j → j < M 3 4 → inR ((fun i j => lsZ (EX (SG 3 M) (M 6) (M 5) i j) (M 3 5)) i j)) (a : Int × Int) (ha : inR a.1) : ∀ i : Int, 0 ≤ i → i ≤ M 3 4 → inR (btR (fun i j => lsZ (EX (SG 3 M) (M 6) (M 5) i j) (M 3 5)) (M 3 4) i.toNat a).1 → ∀ N, (∀ c, c ≠ 7 → N c = M c) → ∀ q r : Option AV, isLg q = false → isLg r = false → Wp (D + 4) 72 (13, [some (.inr (.inr 0)), some (.inl (btR (fun i j => lsZ (EX (SG 3 M) (M 6) (M 5) i j) (M 3 5)) (M 3 4) i.toNat a).1), some (.inl (btR (fun i j => lsZ (EX (SG 3 M) (M 6) (M 5) i j) (M 3 5)) (M 3 4) i.toNat a).2), some (.inl i), q, r], [], N) (fun r M' => ∃ v, r = some (.inl v) ∧ (v = (btR (fun i j => lsZ (EX (SG 3 M) (M 6) (M 5) i j) (M 3 5)) (M 3 4) (M 3 4).toNat a).2 ∧ ∀ c, c ≠ 7 → M' c = M c)) := by
  obtain ⟨n0, n1, k0, k1, f0, f1, r0, r1, s0, s1, hA⟩ := pkd_3 hI
  refine loopZ (M 3 4) ?_
  intro i h0 h1 ih hb N hN q0 r0' hq0 hr0
  refine w_iload_n ta_72 rfl rfl ?_
  refine w_aload_n ta_72 rfl rfl ?_
  refine w_getR ta_72 rfl rfl ?_
  refine w_getIv 4 (v := M 3 4) ta_72 rfl rfl rfl (by rw [hN 3 (by decide)]) ?_
  refine w_icmp_ge ta_72 rfl ⟨by omega, by omega⟩ ⟨by omega, by omega⟩ (fun h21 => ?_) (fun h21 => ?_)
  · refine w_iload_n ta_72 rfl rfl ?_
    refine w_iret ta_72 rfl (Or.inl rfl) ?_
    exact ⟨_, rfl, by rw [show i = M 3 4 by omega], hN⟩
  · refine w_iload_n ta_72 rfl rfl ?_
    refine w_iconst ta_72 rfl ?_
    refine w_iadd ta_72 rfl ?_
    refine w_ist_4_6 ta_72 rfl rfl ?_
    have e0 : (i + 1 - (i + 1)).toNat = 0 := by omega
    have q := fun P hP => lp_better2 D M hI hE P i h0 h21 (btR (fun i j => lsZ (EX (SG 3 M) (M 6) (M 5) i j) (M 3 5)) (M 3 4) i.toNat a) hb hP (i + 1) (by omega) (by omega) N hN r0' hr0
    simp only [e0] at q
    refine q _ ?_
    · intro N2 hN2 q2 hq2
      have ih := ih h21
      rw [show (i + 1).toNat = i.toNat + 1 by omega] at ih
      simp only [btR] at ih
      rw [show ((i.toNat : Nat) : Int) = i by omega] at ih
      have hb2 := btM_b (E := (fun i j => lsZ (EX (SG 3 M) (M 6) (M 5) i j) (M 3 5))) (n := M 3 4) (fun j j0 j1 => hE i j h0 h21 j0 j1) h0 hb (M 3 4 - (i + 1)).toNat (by omega)
      refine w_iinc_3_6 ta_72 rfl rfl ?_
      refine w_goto ta_72 rfl ?_
      exact ih hb2 N2 hN2 _ _ rfl hq2
set_option maxHeartbeats 4000000 in
set_option maxRecDepth 20000 in
theorem c_better (D : Nat) (M : Mem) (hI : PkI 3 M) : CI (D + 4) 72 [.inr (.inr 0)] M (fun v M' => v = (btR (fun i j => lsZ (EX (SG 3 M) (M 6) (M 5) i j) (M 3 5)) (M 3 4) (M 3 4).toNat (lsZ (SG 3 M) (M 3 5), -4)).2 ∧ ∀ c, c ≠ 7 → M' c = M c) := by
  refine mk_C mt_72 rfl (Nat.le_of_ble_eq_true rfl) (L := [some _, none, none, none, none, none]) rfl ?_
  obtain ⟨n0, n1, k0, k1, f0, f1, r0, r1, s0, s1, hA⟩ := pkd_3 hI
  refine w_aload_n ta_72 rfl rfl ?_
  refine w_getR ta_72 rfl rfl ?_
  refine w_cI [_] _ ta_72 rfl rfl rfl mt_19 rfl rfl rfl rfl (Nat.le_of_ble_eq_true rfl) (fun _ => rfl) rfl (c_leastSum_3 _ M hI) ?_
  rintro v M2 ⟨hv, hS⟩
  refine w_istn_1_6 ta_72 rfl rfl ?_
  refine w_bipush ta_72 rfl ?_
  refine w_istn_2_6 ta_72 rfl rfl ?_
  refine w_iconst ta_72 rfl ?_
  refine w_istn_3_6 ta_72 rfl rfl ?_
  have lb := SG_b hI (flZ (SG 3 M) (M 3 5))
  have hE : ∀ i j, 0 ≤ i → i < M 3 4 → 0 ≤ j → j < M 3 4 → inR (lsZ (EX (SG 3 M) (M 6) (M 5) i j) (M 3 5)) := fun i j i0 i1 j0 j1 => by
    have qi := hA i i0 i1
    have qj := hA j j0 j1
    have b := flZ_b (EX (SG 3 M) (M 6) (M 5) i j) (k := M 3 5) (by omega)
    have := EX_b (s := SG 3 M) (home := M 6) (has := M 5) (i := i) (j := j) (a := 0) (b := 15984) (fun g _ _ => SG_b hI g) (by omega) (by omega) (by omega) _ b.1 (by omega)
    exact ⟨by show _ ≤ EX (SG 3 M) (M 6) (M 5) i j _; omega, by show EX (SG 3 M) (M 6) (M 5) i j _ < _; omega⟩
  have hb : inR (lsZ (SG 3 M) (M 3 5)) := ⟨by show _ ≤ SG 3 M _; omega, by show SG 3 M _ < _; omega⟩
  rw [hv]
  exact lp_better1 D M hI hE (lsZ (SG 3 M) (M 3 5), -4) hb 0 (by omega) n0 hb M2 hS.1 none none rfl rfl
