/-! the law, from its entry -/
theorem kl_ao2 : Cond.arrayOver (.object "CellPacks$Pack") ∈ lw_tbl := List.mem_of_getElem? (i := 255) (by decide +kernel)
theorem kl_ao3 : Cond.arrayOver (.object "CellPacks$Sheet") ∈ lw_tbl := List.mem_of_getElem? (i := 336) (by decide +kernel)
theorem kl_aoa : Cond.arrayOver (.array .int) ∈ lw_tbl := List.mem_of_getElem? (i := 269) (by decide +kernel)
theorem kl_aint : Cond.arrayClass .int ∈ lw_tbl := List.mem_of_getElem? (i := 218) (by decide +kernel)
theorem kl_abyte : Cond.arrayClass .byte ∈ lw_tbl := List.mem_of_getElem? (i := 156) (by decide +kernel)
theorem kl_aboolean : Cond.arrayClass .boolean ∈ lw_tbl := List.mem_of_getElem? (i := 294) (by decide +kernel)
theorem kl_s77 : Cond.stringRef RX5 77 "groups" ∈ lw_tbl := List.mem_of_getElem? (i := 438) (by decide +kernel)
theorem kl_s79 : Cond.stringRef RX5 79 "cells" ∈ lw_tbl := List.mem_of_getElem? (i := 439) (by decide +kernel)
theorem kl_s81 : Cond.stringRef RX5 81 "floor" ∈ lw_tbl := List.mem_of_getElem? (i := 440) (by decide +kernel)
theorem kl_s83 : Cond.stringRef RX5 83 "rate" ∈ lw_tbl := List.mem_of_getElem? (i := 441) (by decide +kernel)
theorem kl_s85 : Cond.stringRef RX5 85 "slack" ∈ lw_tbl := List.mem_of_getElem? (i := 442) (by decide +kernel)
theorem kl_lcs : Cond.laysStatic "java/lang/String" "COMPACT_STRINGS" "Z" ∈ lw_tbl := List.mem_of_getElem? (i := 456) (by decide +kernel)
theorem kl_ics : Cond.initialized "java/lang/String" ∈ lw_tbl := List.mem_of_getElem? (i := 124) (by decide +kernel)
theorem kl_lsf : Cond.laysStatic "jdk/internal/util/Preconditions" "SIOOBE_FORMATTER" "Ljava/util/function/BiFunction;" ∈ lw_tbl := List.mem_of_getElem? (i := 473) (by decide +kernel)
theorem kl_isf : Cond.initialized "jdk/internal/util/Preconditions" ∈ lw_tbl := List.mem_of_getElem? (i := 126) (by decide +kernel)
theorem kc_lw_itX0 : Cond.instantiable RX0 5 ∈ GW := gw_at 296 (by decide +kernel) (by decide +kernel)
theorem kc_lw_itX1 : Cond.instantiable RX1 7 ∈ GW := gw_at 263 (by decide +kernel) (by decide +kernel)
theorem kc_lw_itX2 : Cond.instantiable RX2 9 ∈ GW := gw_at 158 (by decide +kernel) (by decide +kernel)
theorem kc_lw_itX3 : Cond.instantiable RX3 3 ∈ GW := gw_at 337 (by decide +kernel) (by decide +kernel)
theorem kc_lw_itX4 : Cond.instantiable RX4 2 ∈ GW := gw_at 141 (by decide +kernel) (by decide +kernel)
theorem kc_lw_itX5 : Cond.instantiable RX5 9 ∈ GW := gw_at 220 (by decide +kernel) (by decide +kernel)
theorem kc_lw_itX6 : Cond.instantiable RX6 5 ∈ GW := gw_at 257 (by decide +kernel) (by decide +kernel)
theorem kc_lw_itX7 : Cond.instantiable RX7 10 ∈ GW := gw_at 133 (by decide +kernel) (by decide +kernel)
theorem kc_lw_itX8 : Cond.instantiable RX8 26 ∈ GW := gw_at 891 (by decide +kernel) (by decide +kernel)
theorem kc_lw_cl7 : Cond.classLink R_law 7 RX7 ∈ GW := gw_at 132 (by decide +kernel) (by decide +kernel)
theorem kc_lw_iiX7 : Cond.initialized RX7 ∈ GW := gw_at 115 (by decide +kernel) (by decide +kernel)
theorem dc_lw_0 : decode code 0 = .ok (.new 7, 3) := by decide +kernel
theorem dc_lw_3 : decode code 3 = .ok (.dup, 1) := by decide +kernel
set_option maxRecDepth 20000 in
theorem kc_lw_kcX7 : Cond.code yX7_init cX7_init 2 none ∈ GW := gw_at 136 rfl rfl
theorem kc_lw_imX7 : Cond.instanceMethod yX7_init ∈ GW := gw_at 135 (by decide +kernel) (by decide +kernel)
theorem kc_lw_ml9 : Cond.methodLink R_law 9 yX7_init ∈ GW := gw_at 134 (by decide +kernel) (by decide +kernel)
theorem dc_lw_4 : decode code 4 = .ok (.invokespecial 9, 3) := by decide +kernel
theorem dc_lw_7 : decode code 7 = .ok (.astore_n 1, 1) := by decide +kernel
theorem kc_lw_cl10 : Cond.classLink R_law 10 RX8 ∈ GW := gw_at 890 (by decide +kernel) (by decide +kernel)
theorem kc_lw_iiX8 : Cond.initialized RX8 ∈ GW := gw_at 123 (by decide +kernel) (by decide +kernel)
theorem dc_lw_8 : decode code 8 = .ok (.new 10, 3) := by decide +kernel
theorem dc_lw_11 : decode code 11 = .ok (.dup, 1) := by decide +kernel
set_option maxRecDepth 20000 in
theorem kc_lw_kcX8 : Cond.code yX8_init cX8_init 2 none ∈ GW := gw_at 894 rfl rfl
theorem kc_lw_imX8 : Cond.instanceMethod yX8_init ∈ GW := gw_at 893 (by decide +kernel) (by decide +kernel)
theorem kc_lw_ml12 : Cond.methodLink R_law 12 yX8_init ∈ GW := gw_at 892 (by decide +kernel) (by decide +kernel)
theorem dc_lw_12 : decode code 12 = .ok (.invokespecial 12, 3) := by decide +kernel
theorem dc_lw_15 : decode code 15 = .ok (.astore_n 2, 1) := by decide +kernel
theorem dc_lw_16 : decode code 16 = .ok (.iconst 0, 1) := by decide +kernel
theorem dc_lw_17 : decode code 17 = .ok (.istore_n 3, 1) := by decide +kernel
section START
variable {cT dC : Nat → ClassId} {dI : Nat → Nat → Nat} {adV : Nat → Nat}
variable {p : Program} {l : Launch} {e : Env} {R : Room} {s : State} {m : MethodId} {args : Array Value} {below : List Frame} {meth : Method} {c : Code} {H H0 : Heap} {locs : List Loc} {cells slots : Nat} {Q : State → Prop} {A : Nat → Prop} {pc : Nat} {ls : Array Slot} {rest : List Value}
theorem mk_model {W0 : va_W} {sd : Nat → Nat} {x0 h0 sz0 : Nat} {a : Array Value} {st0 : List Value} (hr : va_Run p l e R s m args below meth c H locs cells slots 17 765 (F0 m pc ls st0) rest (QcM cT dC dI sd x0 h0 sz0 H.size W0 a) (va_A ((h0, ob8) :: W0) H.size)) (hD : va_D A ((h0, ob8) :: W0)) (hS : va_S A H0 H locs) (hA : ∀ q, H0.size ≤ q → A q)
    (kk : ∀ (H1 : Heap) (locs1 : List Loc), GM cT dC dI sd x0 h0 sz0 H1 → va_S A H0 H1 locs1 → W p l e R s m args below meth c H1 locs1 (cells + 17) (slots + 765) Q (F0 m (pc + 3) ls rest)) : W p l e R s m args below meth c H locs cells slots Q (F0 m pc ls st0) := by
  intro T hT X
  obtain ⟨v, st₀, t, T', L, h1, X', hL, e1, e2, ⟨⟨hv, hG⟩, hz, hk⟩, st⟩ := hr T hT X
  cases hv
  rw [h1] at hz hk
  have hF : ∀ q, va_A ((h0, ob8) :: W0) H.size q → A q := by
    intro q h
    rcases h with ⟨k, e, h⟩ | h
    · exact hD.2 k _ h
    · exact hA q (Nat.le_trans hS.1 h)
  obtain ⟨t2, a1, b1⟩ := kk T'.heap (locs ++ L) (by rw [e1]; exact hG)
    ⟨Nat.le_trans hS.1 (by rw [e1]; exact hz), fun q h1 h2 => by rw [e1, hk q (Nat.lt_of_lt_of_le h1 hS.1) (fun z => h2 (hF q z))]; exact hS.2.1 q h1 h2, fun q hq => by
      rcases List.mem_append.mp hq with h | h
      · exact hS.2.2 q h
      · exact hF _ (hL q h)⟩ T' rfl X'
  exact ⟨t2, st t2 a1, b1⟩
end START
set_option maxHeartbeats 4000000 in
set_option maxRecDepth 20000 in
/-- what the tables know of the classes -/
theorem st_K {s : State} {args : Array Value} (hts : ∀ w ∈ lw_tbl, w.before args s = true) : ∃ (cT dC : Nat → ClassId) (dI : Nat → Nat → Nat), WK cT dC dI s := by
  have htg : ∀ w ∈ GW, w.before args s = true := fun w hw => hts w (List.mem_filter.mp hw).1
  obtain ⟨c0, i0, k0⟩ := u_known (C := RX0) (T := TX0) (N := 5) (n := 5) htg (cl_ok 0 _ rfl).1 (htg _ kc_lw_itX0)
  obtain ⟨c1, i1, k1⟩ := u_known (C := RX1) (T := TX1) (N := 7) (n := 7) htg (cl_ok 1 _ rfl).1 (htg _ kc_lw_itX1)
  obtain ⟨c2, i2, k2⟩ := u_known (C := RX2) (T := TX2) (N := 9) (n := 9) htg (cl_ok 2 _ rfl).1 (htg _ kc_lw_itX2)
  obtain ⟨c3, i3, k3⟩ := u_known (C := RX3) (T := TX3) (N := 3) (n := 3) htg (cl_ok 3 _ rfl).1 (htg _ kc_lw_itX3)
  obtain ⟨c4, i4, k4⟩ := u_known (C := RX4) (T := TX4) (N := 2) (n := 2) htg (cl_ok 4 _ rfl).1 (htg _ kc_lw_itX4)
  obtain ⟨c5, i5, k5⟩ := u_known (C := RX5) (T := TX5) (N := 9) (n := 9) htg (cl_ok 5 _ rfl).1 (htg _ kc_lw_itX5)
  obtain ⟨c6, i6, k6⟩ := u_known (C := RX6) (T := TX6) (N := 5) (n := 5) htg (cl_ok 6 _ rfl).1 (htg _ kc_lw_itX6)
  obtain ⟨c7, i7, k7⟩ := u_known (C := RX7) (T := TX7) (N := 10) (n := 10) htg (cl_ok 7 _ rfl).1 (htg _ kc_lw_itX7)
  obtain ⟨c8, i8, k8⟩ := u_known (C := RX8) (T := TX8) (N := 26) (n := 26) htg (cl_ok 8 _ rfl).1 (htg _ kc_lw_itX8)
  obtain ⟨dC, dI, hKc⟩ : ∃ (dC : Nat → ClassId) (dI : Nat → Nat → Nat), ∀ (k : Nat) (q : vw_C), vwCl[k]? = some q → u_Kn s q.1 q.2.1 q.2.2 (dC k) (dI k) := by
    refine ⟨fun k => if k = 0 then c0 else if k = 1 then c1 else if k = 2 then c2 else if k = 3 then c3 else if k = 4 then c4 else if k = 5 then c5 else if k = 6 then c6 else if k = 7 then c7 else c8, fun k => if k = 0 then i0 else if k = 1 then i1 else if k = 2 then i2 else if k = 3 then i3 else if k = 4 then i4 else if k = 5 then i5 else if k = 6 then i6 else if k = 7 then i7 else i8, ?_⟩
    intro k q hq
    match k, hq with
    | 0, hq => cases hq; exact k0
    | 1, hq => cases hq; exact k1
    | 2, hq => cases hq; exact k2
    | 3, hq => cases hq; exact k3
    | 4, hq => cases hq; exact k4
    | 5, hq => cases hq; exact k5
    | 6, hq => cases hq; exact k6
    | 7, hq => cases hq; exact k7
    | 8, hq => cases hq; exact k8
    | k + 9, hq => simp [vwCl] at hq
  obtain ⟨a0, g0, m0, e0, f0, n0⟩ := Cond.arrayClass_spec (hts _ kl_aint)
  obtain ⟨a1, g1, m1, e1, f1, n1⟩ := Cond.arrayClass_spec (hts _ kl_abyte)
  obtain ⟨a2, g2, m2, e2, f2, n2⟩ := Cond.arrayClass_spec (hts _ kl_aboolean)
  obtain ⟨m3, a3, g3, p3, -, f3, n3, e3⟩ := Cond.arrayOver_spec (hts _ kl_ao2)
  obtain ⟨m4, a4, g4, p4, -, f4, n4, e4⟩ := Cond.arrayOver_spec (hts _ kl_ao3)
  obtain ⟨m5, a5, g5, p5, -, f5, n5, e5⟩ := arrayOverA_spec (hts _ kl_aoa)
  refine ⟨fun k => if k = 0 then a0 else if k = 1 then a1 else if k = 2 then a2 else if k = 3 then a3 else if k = 4 then a4 else a5, dC, dI, ⟨hKc, ?_⟩, fun w hw => ?_, va_AO.of (hts _ kl_ao2), va_AO.of (hts _ kl_ao3), hts _ kl_aoa⟩
  · intro k q hq
    match k, hq with
    | 0, hq => cases hq; exact ⟨fun n z => ⟨fun k h => (by cases h), g0, f0, m0, n0⟩, e0⟩
    | 1, hq => cases hq; exact ⟨fun n z => ⟨fun k h => (by cases h), g1, f1, m1, n1⟩, e1⟩
    | 2, hq => cases hq; exact ⟨fun n z => ⟨fun k h => (by cases h), g2, f2, m2, n2⟩, e2⟩
    | 3, hq => cases hq; exact ⟨fun n z => ⟨fun k h => (by cases h), g3, f3, m3, n3⟩, g3, m3, f3, n3, p3, e3⟩
    | 4, hq => cases hq; exact ⟨fun n z => ⟨fun k h => (by cases h), g4, f4, m4, n4⟩, g4, m4, f4, n4, p4, e4⟩
    | 5, hq => cases hq; exact ⟨fun n z => ⟨fun k h => (by cases h), g5, f5, m5, n5⟩, e5⟩
    | k + 6, hq => simp [TYS] at hq
  · have hz := hts w (List.mem_filter.mp hw).1
    have hn : isNst w = true := (List.mem_filter.mp hw).2
    cases w <;> first | exact va_Nw.of rfl hz | (cases hn; done)
def tmS (i : Nat) : Term := Term.string "CellPacks$TextReader" (77 + 2 * i)
set_option maxHeartbeats 4000000 in
set_option maxRecDepth 20000 in
/-- what is given of the texts -/
theorem st_S {s : State} {args : Array Value} (hts : ∀ w ∈ lw_tbl, w.before args s = true) (hgv : (Jvm.Cond.and given_1 narrow_1).before args s = true) : ∃ sd adV : Nat → Nat, SR sd adV (fun q => s.heap.size ≤ q) s s.heap := by
  have hs := flat_of_before _ hgv
  have hA : ∀ a : Nat, a < s.heap.size → ¬ (fun q => s.heap.size ≤ q) a := fun a h => Nat.not_le.mpr h
  obtain ⟨adK, adV, hv, hev⟩ := vk_Sof (args := args) (s := s) (N := 5) (tm := tmS) (len := LEN) (byt := BYT) (A := fun q => s.heap.size ≤ q) (fun i hi => by
    rcases (show i = 0 ∨ i = 1 ∨ i = 2 ∨ i = 3 ∨ i = 4 by omega) with rfl | rfl | rfl | rfl | rfl <;> decide)
    (fun i hi => by
    rcases (show i = 0 ∨ i = 1 ∨ i = 2 ∨ i = 3 ∨ i = 4 by omega) with rfl | rfl | rfl | rfl | rfl
    · exact hs _ (by decide +kernel)
    · exact hs _ (by decide +kernel)
    · exact hs _ (by decide +kernel)
    · exact hs _ (by decide +kernel)
    · exact hs _ (by decide +kernel))
    (fun i hi => by
    rcases (show i = 0 ∨ i = 1 ∨ i = 2 ∨ i = 3 ∨ i = 4 by omega) with rfl | rfl | rfl | rfl | rfl
    · exact hs _ (by decide +kernel)
    · exact hs _ (by decide +kernel)
    · exact hs _ (by decide +kernel)
    · exact hs _ (by decide +kernel)
    · exact hs _ (by decide +kernel))
    (fun i hi => by
    rcases (show i = 0 ∨ i = 1 ∨ i = 2 ∨ i = 3 ∨ i = 4 by omega) with rfl | rfl | rfl | rfl | rfl
    · exact hs _ (by decide +kernel)
    · exact hs _ (by decide +kernel)
    · exact hs _ (by decide +kernel)
    · exact hs _ (by decide +kernel)
    · exact hs _ (by decide +kernel))
    (fun i hi => by
    rcases (show i = 0 ∨ i = 1 ∨ i = 2 ∨ i = 3 ∨ i = 4 by omega) with rfl | rfl | rfl | rfl | rfl
    · exact hs _ (by decide +kernel)
    · exact hs _ (by decide +kernel)
    · exact hs _ (by decide +kernel)
    · exact hs _ (by decide +kernel)
    · exact hs _ (by decide +kernel))
    (fun i hi j hj => by
    rcases (show i = 0 ∨ i = 1 ∨ i = 2 ∨ i = 3 ∨ i = 4 by omega) with rfl | rfl | rfl | rfl | rfl
    · have hj : j < 6 := hj
      rcases (show j = 0 ∨ j = 1 ∨ j = 2 ∨ j = 3 ∨ j = 4 ∨ j = 5 by omega) with rfl | rfl | rfl | rfl | rfl | rfl
      · exact hs _ (by decide +kernel)
      · exact hs _ (by decide +kernel)
      · exact hs _ (by decide +kernel)
      · exact hs _ (by decide +kernel)
      · exact hs _ (by decide +kernel)
      · exact hs _ (by decide +kernel)
    · have hj : j < 5 := hj
      rcases (show j = 0 ∨ j = 1 ∨ j = 2 ∨ j = 3 ∨ j = 4 by omega) with rfl | rfl | rfl | rfl | rfl
      · exact hs _ (by decide +kernel)
      · exact hs _ (by decide +kernel)
      · exact hs _ (by decide +kernel)
      · exact hs _ (by decide +kernel)
      · exact hs _ (by decide +kernel)
    · have hj : j < 5 := hj
      rcases (show j = 0 ∨ j = 1 ∨ j = 2 ∨ j = 3 ∨ j = 4 by omega) with rfl | rfl | rfl | rfl | rfl
      · exact hs _ (by decide +kernel)
      · exact hs _ (by decide +kernel)
      · exact hs _ (by decide +kernel)
      · exact hs _ (by decide +kernel)
      · exact hs _ (by decide +kernel)
    · have hj : j < 4 := hj
      rcases (show j = 0 ∨ j = 1 ∨ j = 2 ∨ j = 3 by omega) with rfl | rfl | rfl | rfl
      · exact hs _ (by decide +kernel)
      · exact hs _ (by decide +kernel)
      · exact hs _ (by decide +kernel)
      · exact hs _ (by decide +kernel)
    · have hj : j < 5 := hj
      rcases (show j = 0 ∨ j = 1 ∨ j = 2 ∨ j = 3 ∨ j = 4 by omega) with rfl | rfl | rfl | rfl | rfl
      · exact hs _ (by decide +kernel)
      · exact hs _ (by decide +kernel)
      · exact hs _ (by decide +kernel)
      · exact hs _ (by decide +kernel)
      · exact hs _ (by decide +kernel)
    )
    (fun i j hi hj hij => by
    rcases (show i = 0 ∨ i = 1 ∨ i = 2 ∨ i = 3 ∨ i = 4 by omega) with rfl | rfl | rfl | rfl | rfl <;> rcases (show j = 0 ∨ j = 1 ∨ j = 2 ∨ j = 3 ∨ j = 4 by omega) with rfl | rfl | rfl | rfl | rfl
    · exact absurd rfl hij
    · exact Or.inl (hs _ (by decide +kernel))
    · exact Or.inl (hs _ (by decide +kernel))
    · exact Or.inl (hs _ (by decide +kernel))
    · exact Or.inl (hs _ (by decide +kernel))
    · exact Or.inr (hs _ (by decide +kernel))
    · exact absurd rfl hij
    · exact Or.inl (hs _ (by decide +kernel))
    · exact Or.inl (hs _ (by decide +kernel))
    · exact Or.inl (hs _ (by decide +kernel))
    · exact Or.inr (hs _ (by decide +kernel))
    · exact Or.inr (hs _ (by decide +kernel))
    · exact absurd rfl hij
    · exact Or.inl (hs _ (by decide +kernel))
    · exact Or.inl (hs _ (by decide +kernel))
    · exact Or.inr (hs _ (by decide +kernel))
    · exact Or.inr (hs _ (by decide +kernel))
    · exact Or.inr (hs _ (by decide +kernel))
    · exact absurd rfl hij
    · exact Or.inl (hs _ (by decide +kernel))
    · exact Or.inr (hs _ (by decide +kernel))
    · exact Or.inr (hs _ (by decide +kernel))
    · exact Or.inr (hs _ (by decide +kernel))
    · exact Or.inr (hs _ (by decide +kernel))
    · exact absurd rfl hij
    ) hA
  refine ⟨fun i => adK (i - 100), adV, ?_, ?_, va_Zof (hts _ kl_lcs) (hts _ kl_ics) (va_eqi (hs _ (by decide +kernel))) hA, va_Zqof (hts _ kl_lsf) (hts _ kl_isf) (hs _ (by decide +kernel)) hA⟩
  · rw [show (fun i => (fun i => adK (i - 100)) (100 + i)) = adK from funext fun i => by show adK (100 + i - 100) = _; rw [show 100 + i - 100 = i by omega]]
    exact hv
  · intro e he
    simp only [SRT, List.mem_cons, List.not_mem_nil, or_false] at he
    rcases he with rfl | rfl | rfl | rfl | rfl
    · exact ⟨RX5, "groups", rfl, vk_R.of (hts _ kl_s77) (hev 0 (by decide))⟩
    · exact ⟨RX5, "cells", rfl, vk_R.of (hts _ kl_s79) (hev 1 (by decide))⟩
    · exact ⟨RX5, "floor", rfl, vk_R.of (hts _ kl_s81) (hev 2 (by decide))⟩
    · exact ⟨RX5, "rate", rfl, vk_R.of (hts _ kl_s83) (hev 3 (by decide))⟩
    · exact ⟨RX5, "slack", rfl, vk_R.of (hts _ kl_s85) (hev 4 (by decide))⟩
set_option maxHeartbeats 4000000 in
set_option maxRecDepth 20000 in
/-- THE LAW, from its entry -/
theorem whole_start {p : Program} {e : Env} {s : State} {m : MethodId} {below : List Frame} {meth : Method} {c : Code} (l : Launch) (hflags : l.flags = flags0) {b L : Nat} {xs : Nat → Int32} (hL : L ≤ 2560) (C0 : lw_At p s m meth c b L xs) : W p l e room_1 s m #[Value.ref b] below meth c s.heap [] 0 0 (lw_Z below #[Value.ref b] s) (entryFrame m ([Value.ref b] : List Value).toArray 4) := by
  obtain ⟨hx, hb, hr, hml, hown, hts0, hX, hbl, hlocks, hgv⟩ := id C0
  have hts : ∀ w ∈ GW, w.before #[Value.ref b] s = true := fun w hw => hts0 w (List.mem_filter.mp hw).1
  obtain ⟨cT, dC, dI, hWK⟩ := st_K hts0
  obtain ⟨sd, adV, hSR⟩ := st_S hts0 hgv
  have hK := hWK.1
  have hA : ∀ q : Nat, s.heap.size ≤ q → (fun q : Nat => s.heap.size ≤ q) q := fun _ h => h
  have hS : va_S (fun q : Nat => s.heap.size ≤ q) s.heap s.heap [] := va_S.rf
  have hP : va_P (dC, dI) vwCl [] s.heap := fun k q h => by simp at h
  have hD : va_D (fun q : Nat => s.heap.size ≤ q) [] := ⟨fun i j p q h => by simp at h, fun k q h => by simp at h⟩
  have hl := lv_entry ([.ref b]) (n := 4) (Nat.le_of_ble_eq_true rfl)
  rw [lg_entry_eq]
  generalize (lg_sl ([.ref b]) ++ List.replicate (4 - (lg_sl ([.ref b])).length) Slot.unset).toArray = ls at hl ⊢
  have hl : lv_has ls 4 [(0, .ref b)] := hl
  refine va_new (ci := 7) (fs := [.null, .null, .null, .null, .null, .null, .null, .null, .int 0, .int 0]) (C := RX7) (T := TX7) (N := 10) hx hb hts (cl_ok 7 _ rfl).1 tyX7 tyX7_ok hown (hts _ kc_lw_cl7) (hts _ kc_lw_itX7) (hts _ kc_lw_iiX7) hK hP hD hS hA rfl (fun j hj => by rcases (show j = 0 ∨ j = 1 ∨ j = 2 ∨ j = 3 ∨ j = 4 ∨ j = 5 ∨ j = 6 ∨ j = 7 ∨ j = 8 ∨ j = 9 by omega) with rfl | rfl | rfl | rfl | rfl | rfl | rfl | rfl | rfl | rfl <;> rfl) (Nat.le_of_ble_eq_true rfl) (Nat.le_of_ble_eq_true rfl) dc_lw_0 (fun x0 H hP hD hS => ?_)
  refine lv_dup hx hb dc_lw_3 rfl ?_
  refine mk_back (x := (x0, .inr (7, [.null, .null, .null, .null, .null, .null, .null, .null, .int 0, .int 0]))) (va_runI (Ts := GW) (As := []) (rest := [.ref x0]) ⟨hx, hb, hml, hown, hts⟩ (n_class (cT := cT) (dC := dC) (dI := dI) l x0 H.size) ⟨callB_of (Ts := GW) (ws' := GW) 0 hts (gwc kc_lw_kcX7) rfl rfl rfl (hts _ kc_lw_iiX7) (hts _ kc_lw_ml9) ⟨by decide +kernel, by decide +kernel, by decide +kernel⟩ ⟨Nat.le_of_ble_eq_true rfl, Nat.le_of_ble_eq_true rfl⟩, rfl, hts _ kc_lw_imX7⟩ ⟨PcN_blind _ _ _, fun U hU hW => ⟨rfl, hWK.go hW, by rw [hU], by rw [hU]; exact hP.last, hD.last.weaken (fun _ _ _ _ => trivial)⟩⟩ rfl rfl hl.1 rfl (lv_room (Nat.le_of_ble_eq_true rfl)) dc_lw_4 ⟨Nat.le_of_ble_eq_true rfl, Nat.le_of_ble_eq_true rfl⟩) hP hD hS hA (fun w H locs hG hP hD hS => ?_)
  have hP : va_P (dC, dI) vwCl w H := hP
  have hD : va_D (fun q : Nat => s.heap.size ≤ q) w := hD
  refine lv_astore_n (lv' := [(1, .ref x0), (0, .ref b)]) hx hb dc_lw_7 rfl hl (by decide) rfl (fun ls hl => ?_)
  refine va_new (ci := 8) (fs := [.null, .null, .null, .null, .null, .null, .null, .int 0, .int 0, .int 0, .int 0, .int 0, .int 0, .int 0, .null, .null, .null, .null, .null, .null, .null, .int 0, .null, .null, .null, .int 0]) (C := RX8) (T := TX8) (N := 26) hx hb hts (cl_ok 8 _ rfl).1 tyX8 tyX8_ok hown (hts _ kc_lw_cl10) (hts _ kc_lw_itX8) (hts _ kc_lw_iiX8) hK hP hD hS hA rfl (fun j hj => by rcases (show j = 0 ∨ j = 1 ∨ j = 2 ∨ j = 3 ∨ j = 4 ∨ j = 5 ∨ j = 6 ∨ j = 7 ∨ j = 8 ∨ j = 9 ∨ j = 10 ∨ j = 11 ∨ j = 12 ∨ j = 13 ∨ j = 14 ∨ j = 15 ∨ j = 16 ∨ j = 17 ∨ j = 18 ∨ j = 19 ∨ j = 20 ∨ j = 21 ∨ j = 22 ∨ j = 23 ∨ j = 24 ∨ j = 25 by omega) with rfl | rfl | rfl | rfl | rfl | rfl | rfl | rfl | rfl | rfl | rfl | rfl | rfl | rfl | rfl | rfl | rfl | rfl | rfl | rfl | rfl | rfl | rfl | rfl | rfl | rfl <;> rfl) (Nat.le_of_ble_eq_true rfl) (Nat.le_of_ble_eq_true rfl) dc_lw_8 (fun h0 H hP hD hS => ?_)
  have hP : va_P (dC, dI) vwCl ((h0, ob8) :: w) H := va_P.swap (a := []) (b := w) (c := [(h0, ob8)]) hP
  have hD : va_D (fun q : Nat => s.heap.size ≤ q) ((h0, ob8) :: w) := va_D.swap (a := []) (b := w) (c := [(h0, ob8)]) hD
  refine lv_dup hx hb dc_lw_11 rfl ?_
  refine mk_model (va_runI (Ts := GW) (As := []) (rest := [.ref h0]) ⟨hx, hb, hml, hown, hts⟩ (n_model (cT := cT) (dC := dC) (dI := dI) l sd adV x0 h0 s.heap.size H.size w hG) ⟨callB_of (Ts := GW) (ws' := GW) 0 hts (gwc kc_lw_kcX8) rfl rfl rfl (hts _ kc_lw_iiX8) (hts _ kc_lw_ml12) ⟨by decide +kernel, by decide +kernel, by decide +kernel⟩ ⟨Nat.le_of_ble_eq_true rfl, Nat.le_of_ble_eq_true rfl⟩, rfl, hts _ kc_lw_imX8⟩ ⟨PcM_blind _ _ _ _ _, fun U hU hW => ⟨rfl, hWK.go hW, by rw [hU], by rw [hU]; exact hP, hD, hSR.go hS hU hW, hS.1⟩⟩ rfl rfl hl.1 rfl (lv_room (Nat.le_of_ble_eq_true rfl)) dc_lw_12 ⟨Nat.le_of_ble_eq_true rfl, Nat.le_of_ble_eq_true rfl⟩) hD hS hA (fun H locs hG2 hS => ?_)
  obtain ⟨ad, M, had0, had80, hs100, hI, hinj, hnew, hPW⟩ := hG2
  subst had0
  subst had80
  refine lv_astore_n (lv' := [(2, .ref (ad 80)), (1, .ref (ad 0)), (0, .ref b)]) hx hb dc_lw_15 rfl hl (by decide) rfl (fun ls hl => ?_)
  refine lv_iconst (v := 0) hx hb dc_lw_16 (by decide) ?_
  refine lv_istore_n (lv' := [(3, .int 0), (2, .ref (ad 80)), (1, .ref (ad 0)), (0, .ref b)]) hx hb dc_lw_17 rfl hl (by decide) rfl (fun ls hl => ?_)
  refine va_forget (fun q hq => hS.2.2 q hq) ?_
  refine W.widen (k := 98) (n := 1715) (Nat.le_of_ble_eq_true rfl) (Nat.le_of_ble_eq_true rfl) ?_
  exact law_loop (ad := ad) (cT := cT) (dC := dC) (dI := dI) (adV := adV) ⟨C0, ⟨hinj, hK, hWK.2.1, hSR.ok hs100 hnew⟩, hnew, hL⟩ (L + 1) 0 M H [] ls (Nat.zero_le _) (by omega) hI hPW ⟨hS.1, fun q h1 h2 => hS.2.1 q h1 (fun z => absurd z (Nat.not_le.mpr h1)), fun _ h => by cases h⟩ (lv_sub hl [3, 2, 1, 0] rfl)
