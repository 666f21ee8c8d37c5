/-! the constructor of the reference -/
section MCTOR
variable {cT dC : Nat → ClassId} {dI : Nat → Nat → Nat} {adV : Nat → Nat}
variable {p : Program} {l : Launch} {e : Env} {R : Room} {s : State} {m : MethodId} {args : Array Value} {below : List Frame} {meth : Method} {c : Code} {H : Heap} {locs : List Loc} {cells slots : Nat} {Q : State → Prop}
/-- writes to new cells need no saying -/
theorem w_cut {g : JFrame} (k : W p l e R s m args below meth c H (locs.filter fun q => decide (q.base < s.heap.size)) cells slots Q g) : W p l e R s m args below meth c H locs cells slots Q g := fun T hT X => k T hT { X with same := X.same.weaken (fun y hy hlt => List.mem_filter.mpr ⟨hy, decide_eq_true hlt⟩) (Nat.le_refl _) (Nat.le_refl _) }
/-- the texts, over any cells that are not theirs -/
def SR (sd adV : Nat → Nat) (A : Nat → Prop) (U : State) (H : Heap) : Prop := vk_S 5 LEN BYT (fun i => sd (100 + i)) adV A U H ∧ (∀ e ∈ SRT, ∃ own tx, RN[e.1]? = some own ∧ vk_R own e.2.1 tx (sd e.2.2) U) ∧ va_Z "java/lang/String" "COMPACT_STRINGS" "Z" (.int 1) A U H ∧ va_Zq "jdk/internal/util/Preconditions" "SIOOBE_FORMATTER" "Ljava/util/function/BiFunction;" A U H
theorem SR.go {sd : Nat → Nat} {A : Nat → Prop} (h : SR sd adV A s s.heap) (hS : va_S A s.heap H locs) {U : State} (hU : U.heap = H) (hW : s.WarmedH U.vm) : SR sd adV A U U.heap := by
  obtain ⟨h4, h5, h6, h7⟩ := h
  refine ⟨?_, fun e he => ?_, ?_, ?_⟩
  · rw [hU]
    exact vk_S.moved hW.alike (vk_S.kept h4 hS.2.1)
  · obtain ⟨own, tx, g1, g2⟩ := h5 e he
    exact ⟨own, tx, g1, vk_R.warm hW g2⟩
  · rw [hU]
    exact va_Z.moved hW.alike (va_Z.kept h6 hS.2.1)
  · rw [hU]
    exact va_Zq.moved hW.alike (va_Zq.kept h7 hS.2.1)
theorem SR.same {sd : Nat → Nat} {A : Nat → Prop} {U U' : State} (h : SR sd adV A U U.heap) (hv : U'.vm = U.vm) (hh : U'.heap = U.heap) : SR sd adV A U' U'.heap := by
  obtain ⟨h4, h5, h6, h7⟩ := h
  have ha : U.vm.Alike U'.vm := by rw [hv]; exact Vm.Alike.refl _
  refine ⟨?_, fun e he => ?_, ?_, ?_⟩
  · rw [hh]
    exact vk_S.moved ha h4
  · obtain ⟨own, tx, g1, g2⟩ := h5 e he
    exact ⟨own, tx, g1, vk_R.same hv g2⟩
  · rw [hh]
    exact va_Z.moved ha h6
  · rw [hh]
    exact va_Zq.moved ha h7
theorem srt_100 : ∀ e ∈ SRT, 100 ≤ e.2.2 := by decide
theorem SR.ok {sd ad : Nat → Nat} {A : Nat → Prop} {U : State} (h : SR sd adV A U U.heap) (hs : ∀ i, 100 ≤ i → ad i = sd i) (hA : ∀ q, AD ad q → A q) : StrOK ad adV U U.heap := by
  obtain ⟨h4, h5, h6, h7⟩ := h
  refine ⟨?_, fun e he => ?_, h6.narrow hA, h7.narrow hA⟩
  · rw [show (fun i => ad (100 + i)) = (fun i => sd (100 + i)) from funext fun i => hs _ (by omega)]
    exact h4.narrow hA
  · rw [hs _ (srt_100 e he)]
    exact h5 e he
abbrev ob8 : va_E := .inr (8, [.null, .null, .null, .null, .null, .null, .null, .int 0, .int 0, .int 0, .int 0, .int 0, .int 0, .int 0, .null, .null, .null, .null, .null, .null, .null, .int 0, .null, .null, .null, .int 0])
def PcM (cT dC : Nat → ClassId) (dI : Nat → Nat → Nat) (sd adV : Nat → Nat) (h0 sz0 sz : Nat) (W0 : va_W) : Array Value → State → Prop := va_Pc [.ref h0] (fun U => WK cT dC dI U ∧ U.heap.size = sz ∧ va_P (dC, dI) vwCl ((h0, ob8) :: W0) U.heap ∧ va_D (fun q => sz0 ≤ q) ((h0, ob8) :: W0) ∧ SR sd adV (fun q => sz0 ≤ q) U U.heap ∧ sz0 ≤ sz)
def GM (cT dC : Nat → ClassId) (dI : Nat → Nat → Nat) (sd : Nat → Nat) (x0 h0 sz0 : Nat) (H : Heap) : Prop := ∃ (ad : Nat → Nat) (M : Mem), ad 0 = x0 ∧ ad 80 = h0 ∧ (∀ i, 100 ≤ i → ad i = sd i) ∧ INV M ∧ Inj ad ∧ (∀ q, AD ad q → sz0 ≤ q) ∧ va_P (dC, dI) vwCl (WL ad cT M) H
def QcM (cT dC : Nat → ClassId) (dI : Nat → Nat → Nat) (sd : Nat → Nat) (x0 h0 sz0 sz : Nat) (W0 : va_W) : Array Value → State → Outcome → State → Prop := fun _ st oc t => (oc = .returned none ∧ GM cT dC dI sd x0 h0 sz0 t.heap) ∧ va_F (va_A ((h0, ob8) :: W0) sz) st t
theorem PcM_blind (sd : Nat → Nat) (h0 sz0 sz : Nat) (W0 : va_W) : FrameBlind (PcM cT dC dI sd adV h0 sz0 sz W0) := fun a U g mk q => ⟨q.1, WK.same q.2.1 rfl, q.2.2.1, q.2.2.2.1, q.2.2.2.2.1, SR.same q.2.2.2.2.2.1 rfl rfl, q.2.2.2.2.2.2⟩
end MCTOR
abbrev wM (cT : Nat → ClassId) (h0 q0 q1 q2 q3 q4 q5 q6 q7 q8 q9 q10 q11 q12 q13 q14 q15 q16 : Nat) (W0 : va_W) : va_W := (h0, .inr (8, [.ref q0, .ref q1, .ref q2, .ref q3, .ref q4, .ref q5, .ref q6, .int 0, .int 0, .int 0, .int 0, .int 0, .int 0, .int 0, .ref q7, .ref q8, .ref q9, .ref q10, .ref q11, .ref q12, .ref q13, .int 0, .ref q14, .ref q15, .ref q16, .int 0])) :: (q16, zA (cT 0) 160) :: (q15, zA (cT 0) 4) :: (q14, zA (cT 0) 4) :: (q13, zA (cT 0) 16) :: (q12, zA (cT 0) 16) :: (q11, zA (cT 0) 16) :: (q10, zA (cT 2) 16) :: (q9, zA (cT 0) 80) :: (q8, zA (cT 0) 16) :: (q7, zA (cT 0) 5) :: (q6, zA (cT 2) 5) :: (q5, zA (cT 0) 160) :: (q4, zA (cT 0) 53) :: (q3, zA (cT 0) 53) :: (q2, zA (cT 2) 2) :: (q1, zA (cT 0) 106) :: (q0, zA (cT 0) 53) :: W0
def PL (i : Nat) : Nat := if i < 80 then 18 + POS.getD i 0 else if i = 80 then 0 else 98 - i
/-- the cell at a place -/
def QLI : List Nat := (List.range 98).map fun k => ((List.range 98).find? fun i => PL i == k).getD 0
theorem PL_inv : ∀ i, i < 98 → QLI.getD (PL i) 0 = i := by decide +kernel
theorem QLI_inv : ∀ k, k < 98 → PL (QLI.getD k 0) = k ∧ QLI.getD k 0 < 98 := by decide +kernel
def adM (ad sd : Nat → Nat) (L : List Nat) : Nat → Nat := fun i => if i < 80 then ad i else if i < 100 then L.getD (i - 80) 0 else sd i
set_option maxHeartbeats 4000000 in
set_option maxRecDepth 20000 in
/-- every cell has its place -/
theorem wM_at (cT : Nat → ClassId) (ad sd : Nat → Nat) (h0 q0 q1 q2 q3 q4 q5 q6 q7 q8 q9 q10 q11 q12 q13 q14 q15 q16 : Nat) (W0 : va_W) (h : ∀ ad' : Nat → Nat, (∀ i, i < 80 → ad' i = ad i) → ∀ i, i < 80 → ∃ sh, shp i = some sh ∧ W0[POS.getD i 0]? = some (ad' i, cellOf ad' cT (M0 i) sh)) : ∀ i, i < 98 → ∃ sh, shp i = some sh ∧ (wM cT h0 q0 q1 q2 q3 q4 q5 q6 q7 q8 q9 q10 q11 q12 q13 q14 q15 q16 W0)[PL i]? = some (adM ad sd [h0, q0, q1, q2, q3, q4, q5, q6, q7, q8, q9, q10, q11, q12, q13, q14, q15, q16] i, cellOf (adM ad sd [h0, q0, q1, q2, q3, q4, q5, q6, q7, q8, q9, q10, q11, q12, q13, q14, q15, q16]) cT (M0 i) sh) := by
  intro i hi
  by_cases h80 : i < 80
  · obtain ⟨sh, e1, e2⟩ := h (adM ad sd [h0, q0, q1, q2, q3, q4, q5, q6, q7, q8, q9, q10, q11, q12, q13, q14, q15, q16]) (fun i hi => if_pos hi) i h80
    refine ⟨sh, e1, ?_⟩
    rw [show PL i = 18 + POS.getD i 0 from if_pos h80]
    rw [← e2]
    rw [show 18 + POS.getD i 0 = POS.getD i 0 + 18 by omega]
    rfl
  · rcases (show i = 80 ∨ i = 81 ∨ i = 82 ∨ i = 83 ∨ i = 84 ∨ i = 85 ∨ i = 86 ∨ i = 87 ∨ i = 88 ∨ i = 89 ∨ i = 90 ∨ i = 91 ∨ i = 92 ∨ i = 93 ∨ i = 94 ∨ i = 95 ∨ i = 96 ∨ i = 97 by omega) with rfl | rfl | rfl | rfl | rfl | rfl | rfl | rfl | rfl | rfl | rfl | rfl | rfl | rfl | rfl | rfl | rfl | rfl
    · exact ⟨_, rfl, rfl⟩
    · exact ⟨_, rfl, rfl⟩
    · exact ⟨_, rfl, rfl⟩
    · exact ⟨_, rfl, rfl⟩
    · exact ⟨_, rfl, rfl⟩
    · exact ⟨_, rfl, rfl⟩
    · exact ⟨_, rfl, rfl⟩
    · exact ⟨_, rfl, rfl⟩
    · exact ⟨_, rfl, rfl⟩
    · exact ⟨_, rfl, rfl⟩
    · exact ⟨_, rfl, rfl⟩
    · exact ⟨_, rfl, rfl⟩
    · exact ⟨_, rfl, rfl⟩
    · exact ⟨_, rfl, rfl⟩
    · exact ⟨_, rfl, rfl⟩
    · exact ⟨_, rfl, rfl⟩
    · exact ⟨_, rfl, rfl⟩
    · exact ⟨_, rfl, rfl⟩
theorem wM_P {cT dC : Nat → ClassId} {dI : Nat → Nat → Nat} {ad : Nat → Nat} {w : va_W} {H : Heap} (h : ∀ i, i < 98 → ∃ sh, shp i = some sh ∧ w[PL i]? = some (ad i, cellOf ad cT (M0 i) sh)) (hP : va_P (dC, dI) vwCl w H) : va_P (dC, dI) vwCl (WL ad cT M0) H := by
  refine hP.by PL (fun k q hk => ?_)
  have hl : k < 98 := by
    have := (List.getElem?_eq_some_iff.mp hk).1
    have h2 : (WL ad cT M0).length = SH.length := by unfold WL; exact List.length_mapIdx
    have h3 : SH.length = 98 := rfl
    omega
  obtain ⟨sh, e1, e2⟩ := h k hl
  rw [WL_at e1] at hk
  cases hk
  exact e2
theorem wM_inj {cT : Nat → ClassId} {ad : Nat → Nat} {w : va_W} {A : Nat → Prop} (h : ∀ i, i < 98 → ∃ sh, shp i = some sh ∧ w[PL i]? = some (ad i, cellOf ad cT (M0 i) sh)) (hD : va_D A w) : Inj ad ∧ ∀ q, AD ad q → A q := by
  have h3 : SH.length = 98 := rfl
  refine ⟨fun i j hi hj e => ?_, fun q hq => ?_⟩
  · rw [h3] at hi hj
    obtain ⟨s1, -, e2⟩ := h i hi
    obtain ⟨s2, -, e4⟩ := h j hj
    have := hD.1 _ _ _ _ e2 e4 e
    have a := PL_inv i hi
    have b := PL_inv j hj
    rw [this, b] at a
    exact a.symm
  · obtain ⟨i, hi, rfl⟩ := hq
    rw [h3] at hi
    obtain ⟨s1, -, e2⟩ := h i hi
    exact hD.2 _ _ e2
/-- all of the world's cells are cells of the table -/
theorem wM_all {cT : Nat → ClassId} {ad : Nat → Nat} {w : va_W} (hl : w.length = 98) (h : ∀ i, i < 98 → ∃ sh, shp i = some sh ∧ w[PL i]? = some (ad i, cellOf ad cT (M0 i) sh)) {k : Nat} {q : Nat × va_E} (hk : w[k]? = some q) : AD ad q.1 := by
  have hk98 : k < 98 := by
    have := (List.getElem?_eq_some_iff.mp hk).1
    omega
  obtain ⟨e1, e2⟩ := QLI_inv k hk98
  obtain ⟨sh, -, e4⟩ := h _ e2
  rw [e1, hk] at e4
  cases e4
  exact ⟨_, e2, rfl⟩
theorem dc_md_0 : decode cX8_init 0 = .ok (.aload_n 0, 1) := by decide +kernel
theorem kc_md_ol : Cond.methodLink RX8 1 objectInit ∈ GW := gw_at 895 (by decide +kernel) (by decide +kernel)
theorem kc_md_oi : Cond.instanceMethod objectInit ∈ GW := gw_at 138 (by decide +kernel) (by decide +kernel)
set_option maxRecDepth 20000 in
theorem kc_md_oc : Cond.code objectInit ⟨#[0xb1]⟩ 1 none ∈ GW := gw_at 139 rfl rfl
theorem dc_md_1 : decode cX8_init 1 = .ok (.invokespecial 1, 3) := by decide +kernel
theorem dc_md_4 : decode cX8_init 4 = .ok (.aload_n 0, 1) := by decide +kernel
theorem dc_md_5 : decode cX8_init 5 = .ok (.bipush 53, 2) := by decide +kernel
theorem kc_md_aint : Cond.arrayClass .int ∈ GW := gw_at 218 (by decide +kernel) (by decide +kernel)
theorem dc_md_7 : decode cX8_init 7 = .ok (.newarray .int, 2) := by decide +kernel
theorem kc_md_f7 : Cond.fieldLink RX8 7 (TX8 0).1 (TX8 0).2.1 (TX8 0).2.2.1 ∈ GW := gw_at 900 (by decide +kernel) (by decide +kernel)
theorem dc_md_9 : decode cX8_init 9 = .ok (.putfield 7, 3) := by decide +kernel
theorem dc_md_12 : decode cX8_init 12 = .ok (.aload_n 0, 1) := by decide +kernel
theorem dc_md_13 : decode cX8_init 13 = .ok (.bipush 106, 2) := by decide +kernel
theorem dc_md_15 : decode cX8_init 15 = .ok (.newarray .int, 2) := by decide +kernel
theorem kc_md_f13 : Cond.fieldLink RX8 13 (TX8 1).1 (TX8 1).2.1 (TX8 1).2.2.1 ∈ GW := gw_at 901 (by decide +kernel) (by decide +kernel)
theorem dc_md_17 : decode cX8_init 17 = .ok (.putfield 13, 3) := by decide +kernel
theorem dc_md_20 : decode cX8_init 20 = .ok (.aload_n 0, 1) := by decide +kernel
theorem dc_md_21 : decode cX8_init 21 = .ok (.iconst 2, 1) := by decide +kernel
theorem kc_md_aboolean : Cond.arrayClass .boolean ∈ GW := gw_at 294 (by decide +kernel) (by decide +kernel)
theorem dc_md_22 : decode cX8_init 22 = .ok (.newarray .boolean, 2) := by decide +kernel
theorem kc_md_f16 : Cond.fieldLink RX8 16 (TX8 2).1 (TX8 2).2.1 (TX8 2).2.2.1 ∈ GW := gw_at 902 (by decide +kernel) (by decide +kernel)
theorem dc_md_24 : decode cX8_init 24 = .ok (.putfield 16, 3) := by decide +kernel
theorem dc_md_27 : decode cX8_init 27 = .ok (.aload_n 0, 1) := by decide +kernel
theorem dc_md_28 : decode cX8_init 28 = .ok (.bipush 53, 2) := by decide +kernel
theorem dc_md_30 : decode cX8_init 30 = .ok (.newarray .int, 2) := by decide +kernel
theorem kc_md_f20 : Cond.fieldLink RX8 20 (TX8 3).1 (TX8 3).2.1 (TX8 3).2.2.1 ∈ GW := gw_at 903 (by decide +kernel) (by decide +kernel)
theorem dc_md_32 : decode cX8_init 32 = .ok (.putfield 20, 3) := by decide +kernel
theorem dc_md_35 : decode cX8_init 35 = .ok (.aload_n 0, 1) := by decide +kernel
theorem dc_md_36 : decode cX8_init 36 = .ok (.bipush 53, 2) := by decide +kernel
theorem dc_md_38 : decode cX8_init 38 = .ok (.newarray .int, 2) := by decide +kernel
theorem kc_md_f23 : Cond.fieldLink RX8 23 (TX8 4).1 (TX8 4).2.1 (TX8 4).2.2.1 ∈ GW := gw_at 904 (by decide +kernel) (by decide +kernel)
theorem dc_md_40 : decode cX8_init 40 = .ok (.putfield 23, 3) := by decide +kernel
theorem dc_md_43 : decode cX8_init 43 = .ok (.aload_n 0, 1) := by decide +kernel
theorem dc_md_44 : decode cX8_init 44 = .ok (.sipush 160, 3) := by decide +kernel
theorem dc_md_47 : decode cX8_init 47 = .ok (.newarray .int, 2) := by decide +kernel
theorem kc_md_f26 : Cond.fieldLink RX8 26 (TX8 5).1 (TX8 5).2.1 (TX8 5).2.2.1 ∈ GW := gw_at 905 (by decide +kernel) (by decide +kernel)
theorem dc_md_49 : decode cX8_init 49 = .ok (.putfield 26, 3) := by decide +kernel
theorem dc_md_52 : decode cX8_init 52 = .ok (.aload_n 0, 1) := by decide +kernel
theorem dc_md_53 : decode cX8_init 53 = .ok (.iconst 5, 1) := by decide +kernel
theorem dc_md_54 : decode cX8_init 54 = .ok (.newarray .boolean, 2) := by decide +kernel
theorem kc_md_f29 : Cond.fieldLink RX8 29 (TX8 6).1 (TX8 6).2.1 (TX8 6).2.2.1 ∈ GW := gw_at 906 (by decide +kernel) (by decide +kernel)
theorem dc_md_56 : decode cX8_init 56 = .ok (.putfield 29, 3) := by decide +kernel
theorem dc_md_59 : decode cX8_init 59 = .ok (.aload_n 0, 1) := by decide +kernel
theorem dc_md_60 : decode cX8_init 60 = .ok (.iconst 5, 1) := by decide +kernel
theorem dc_md_61 : decode cX8_init 61 = .ok (.newarray .int, 2) := by decide +kernel
theorem kc_md_f32 : Cond.fieldLink RX8 32 (TX8 14).1 (TX8 14).2.1 (TX8 14).2.2.1 ∈ GW := gw_at 914 (by decide +kernel) (by decide +kernel)
theorem dc_md_63 : decode cX8_init 63 = .ok (.putfield 32, 3) := by decide +kernel
theorem dc_md_66 : decode cX8_init 66 = .ok (.aload_n 0, 1) := by decide +kernel
theorem dc_md_67 : decode cX8_init 67 = .ok (.bipush 16, 2) := by decide +kernel
theorem dc_md_69 : decode cX8_init 69 = .ok (.newarray .int, 2) := by decide +kernel
theorem kc_md_f35 : Cond.fieldLink RX8 35 (TX8 15).1 (TX8 15).2.1 (TX8 15).2.2.1 ∈ GW := gw_at 915 (by decide +kernel) (by decide +kernel)
theorem dc_md_71 : decode cX8_init 71 = .ok (.putfield 35, 3) := by decide +kernel
theorem dc_md_74 : decode cX8_init 74 = .ok (.aload_n 0, 1) := by decide +kernel
theorem dc_md_75 : decode cX8_init 75 = .ok (.bipush 80, 2) := by decide +kernel
theorem dc_md_77 : decode cX8_init 77 = .ok (.newarray .int, 2) := by decide +kernel
theorem kc_md_f38 : Cond.fieldLink RX8 38 (TX8 16).1 (TX8 16).2.1 (TX8 16).2.2.1 ∈ GW := gw_at 916 (by decide +kernel) (by decide +kernel)
theorem dc_md_79 : decode cX8_init 79 = .ok (.putfield 38, 3) := by decide +kernel
theorem dc_md_82 : decode cX8_init 82 = .ok (.aload_n 0, 1) := by decide +kernel
theorem dc_md_83 : decode cX8_init 83 = .ok (.bipush 16, 2) := by decide +kernel
theorem dc_md_85 : decode cX8_init 85 = .ok (.newarray .boolean, 2) := by decide +kernel
theorem kc_md_f41 : Cond.fieldLink RX8 41 (TX8 17).1 (TX8 17).2.1 (TX8 17).2.2.1 ∈ GW := gw_at 917 (by decide +kernel) (by decide +kernel)
theorem dc_md_87 : decode cX8_init 87 = .ok (.putfield 41, 3) := by decide +kernel
theorem dc_md_90 : decode cX8_init 90 = .ok (.aload_n 0, 1) := by decide +kernel
theorem dc_md_91 : decode cX8_init 91 = .ok (.bipush 16, 2) := by decide +kernel
theorem dc_md_93 : decode cX8_init 93 = .ok (.newarray .int, 2) := by decide +kernel
theorem kc_md_f44 : Cond.fieldLink RX8 44 (TX8 18).1 (TX8 18).2.1 (TX8 18).2.2.1 ∈ GW := gw_at 918 (by decide +kernel) (by decide +kernel)
theorem dc_md_95 : decode cX8_init 95 = .ok (.putfield 44, 3) := by decide +kernel
theorem dc_md_98 : decode cX8_init 98 = .ok (.aload_n 0, 1) := by decide +kernel
theorem dc_md_99 : decode cX8_init 99 = .ok (.bipush 16, 2) := by decide +kernel
theorem dc_md_101 : decode cX8_init 101 = .ok (.newarray .int, 2) := by decide +kernel
theorem kc_md_f47 : Cond.fieldLink RX8 47 (TX8 19).1 (TX8 19).2.1 (TX8 19).2.2.1 ∈ GW := gw_at 919 (by decide +kernel) (by decide +kernel)
theorem dc_md_103 : decode cX8_init 103 = .ok (.putfield 47, 3) := by decide +kernel
theorem dc_md_106 : decode cX8_init 106 = .ok (.aload_n 0, 1) := by decide +kernel
theorem dc_md_107 : decode cX8_init 107 = .ok (.bipush 16, 2) := by decide +kernel
theorem dc_md_109 : decode cX8_init 109 = .ok (.newarray .int, 2) := by decide +kernel
theorem kc_md_f50 : Cond.fieldLink RX8 50 (TX8 20).1 (TX8 20).2.1 (TX8 20).2.2.1 ∈ GW := gw_at 920 (by decide +kernel) (by decide +kernel)
theorem dc_md_111 : decode cX8_init 111 = .ok (.putfield 50, 3) := by decide +kernel
theorem dc_md_114 : decode cX8_init 114 = .ok (.aload_n 0, 1) := by decide +kernel
theorem dc_md_115 : decode cX8_init 115 = .ok (.iconst 4, 1) := by decide +kernel
theorem dc_md_116 : decode cX8_init 116 = .ok (.newarray .int, 2) := by decide +kernel
theorem kc_md_f53 : Cond.fieldLink RX8 53 (TX8 22).1 (TX8 22).2.1 (TX8 22).2.2.1 ∈ GW := gw_at 922 (by decide +kernel) (by decide +kernel)
theorem dc_md_118 : decode cX8_init 118 = .ok (.putfield 53, 3) := by decide +kernel
theorem dc_md_121 : decode cX8_init 121 = .ok (.aload_n 0, 1) := by decide +kernel
theorem dc_md_122 : decode cX8_init 122 = .ok (.iconst 4, 1) := by decide +kernel
theorem dc_md_123 : decode cX8_init 123 = .ok (.newarray .int, 2) := by decide +kernel
theorem kc_md_f56 : Cond.fieldLink RX8 56 (TX8 23).1 (TX8 23).2.1 (TX8 23).2.2.1 ∈ GW := gw_at 923 (by decide +kernel) (by decide +kernel)
theorem dc_md_125 : decode cX8_init 125 = .ok (.putfield 56, 3) := by decide +kernel
theorem dc_md_128 : decode cX8_init 128 = .ok (.aload_n 0, 1) := by decide +kernel
theorem dc_md_129 : decode cX8_init 129 = .ok (.sipush 160, 3) := by decide +kernel
theorem dc_md_132 : decode cX8_init 132 = .ok (.newarray .int, 2) := by decide +kernel
theorem kc_md_f59 : Cond.fieldLink RX8 59 (TX8 24).1 (TX8 24).2.1 (TX8 24).2.2.1 ∈ GW := gw_at 924 (by decide +kernel) (by decide +kernel)
theorem dc_md_134 : decode cX8_init 134 = .ok (.putfield 59, 3) := by decide +kernel
section CTORS
variable {cT dC : Nat → ClassId} {dI : Nat → Nat → Nat}
set_option maxHeartbeats 4000000 in
set_option maxRecDepth 20000 in
theorem n_model (l : Launch) (sd adV : Nat → Nat) (x0 h0 sz0 sz : Nat) (W0 : va_W) (hG : G7 cT x0 W0) : Met l yX8_init (Cond.code yX8_init cX8_init 2 none :: GW) (rmN 3 17 765) (PcM cT dC dI sd adV h0 sz0 sz W0) (QcM cT dC dI sd x0 h0 sz0 sz W0) 17 765 (va_A ((h0, ob8) :: W0) sz) := by
  refine Met.ofW (cc := cX8_init) (maxL := 2) (ret := none) (by decide) rfl ?_
  intro p e s m args below meth c s₁ B hml hv
  obtain ⟨rfl, hWK, hsz, hP, hD0, hSR, hle⟩ := hv
  have hx := B.exec
  have hb := B.bytes
  have hr := B.returns
  have hts0 := atoms_spec (ws := Cond.code yX8_init cX8_init 2 none :: GW) B.pre
  have hts : ∀ w ∈ GW, w.before _ s = true := fun w hw => hts0 w (List.mem_cons_of_mem _ hw)
  have hown : s.vm.findClass RX8 = some m.cls := findClass_of_methodNamed B.named
  have hlocks := B.notSynchronized
  have hin : meth.name = "<init>" := (name_of_methodNamed B.named B.method).1
  have hK := hWK.1
  subst hsz
  have hD := hD0.self (sz := s.heap.size)
  have hA : ∀ q : Nat, s.heap.size ≤ q → va_A ((h0, ob8) :: W0) s.heap.size q := fun q h => Or.inr h
  have hS : va_S (va_A ((h0, ob8) :: W0) s.heap.size) s.heap s.heap [] := va_S.rf
  have hl := lv_entry [.ref h0] (n := 2) (Nat.le_of_ble_eq_true rfl)
  rw [lg_entry_eq]
  generalize (lg_sl [.ref h0] ++ List.replicate (2 - (lg_sl [.ref h0]).length) Slot.unset).toArray = ls at hl ⊢
  have hl : lv_has ls 2 [(0, .ref h0)] := hl
  refine lv_aload_n hx hb dc_md_0 rfl (lv_at hl 0 rfl) ?_
  refine W.objInit hx hb hown (hts _ kc_md_ol) (hts _ kc_md_oi) (hts _ kc_md_oc) rfl (by rw [hml]; exact hl.1) rfl dc_md_1 (Nat.le_of_ble_eq_true rfl) (Nat.le_of_ble_eq_true rfl) ?_
  refine W.eq (g2 := F0 m 4 ls []) rfl ?_
  refine lv_aload_n hx hb dc_md_4 rfl (lv_at hl 0 rfl) ?_
  refine lv_bipush (v := 53) hx hb dc_md_5 (by decide) ?_
  refine nw_arr (atype := .int) (t := 0) hx hb (hts _ kc_md_aint) rfl hK hP hD hS hA rfl (N' := 53) (by decide) (by decide) (fun _ => rfl) (Nat.le_of_ble_eq_true rfl) (Nat.le_of_ble_eq_true rfl) (Nat.le_of_ble_eq_true rfl) dc_md_7 (fun q0 H hP hD hS => ?_)
  have hP := hP.fr1
  have hD := hD.fr1
  refine va_putF hx hb hts (cl_ok 8 _ rfl).1 tyX8 tyX8_ok nmX8 hown hK hP hD hS 0 rfl rfl 0 (by decide) (hts _ kc_md_f7) (fun _ h => h) rfl hin rfl rfl rfl rfl (Nat.le_of_ble_eq_true rfl) dc_md_9 (fun H locs hP hD hS => ?_)
  obtain ⟨V0, hV0⟩ : ∃ V : va_W, V = (q0, zA (cT 0) 53) :: W0 := ⟨_, rfl⟩
  have hP : va_P (dC, dI) vwCl ((h0, .inr (8, [.ref q0, .null, .null, .null, .null, .null, .null, .int 0, .int 0, .int 0, .int 0, .int 0, .int 0, .int 0, .null, .null, .null, .null, .null, .null, .null, .int 0, .null, .null, .null, .int 0])) :: V0) H := by rw [hV0]; exact hP
  have hD : va_D (va_A ((h0, ob8) :: W0) s.heap.size) ((h0, .inr (8, [.ref q0, .null, .null, .null, .null, .null, .null, .int 0, .int 0, .int 0, .int 0, .int 0, .int 0, .int 0, .null, .null, .null, .null, .null, .null, .null, .int 0, .null, .null, .null, .int 0])) :: V0) := by rw [hV0]; exact hD
  refine lv_aload_n hx hb dc_md_12 rfl (lv_at hl 0 rfl) ?_
  refine lv_bipush (v := 106) hx hb dc_md_13 (by decide) ?_
  refine nw_arr (atype := .int) (t := 0) hx hb (hts _ kc_md_aint) rfl hK hP hD hS hA rfl (N' := 106) (by decide) (by decide) (fun _ => rfl) (Nat.le_of_ble_eq_true rfl) (Nat.le_of_ble_eq_true rfl) (Nat.le_of_ble_eq_true rfl) dc_md_15 (fun q1 H hP hD hS => ?_)
  have hP := hP.fr1
  have hD := hD.fr1
  refine va_putF hx hb hts (cl_ok 8 _ rfl).1 tyX8 tyX8_ok nmX8 hown hK hP hD hS 0 rfl rfl 1 (by decide) (hts _ kc_md_f13) (fun _ h => h) rfl hin rfl rfl rfl rfl (Nat.le_of_ble_eq_true rfl) dc_md_17 (fun H locs hP hD hS => ?_)
  obtain ⟨V1, hV1⟩ : ∃ V : va_W, V = (q1, zA (cT 0) 106) :: V0 := ⟨_, rfl⟩
  have hP : va_P (dC, dI) vwCl ((h0, .inr (8, [.ref q0, .ref q1, .null, .null, .null, .null, .null, .int 0, .int 0, .int 0, .int 0, .int 0, .int 0, .int 0, .null, .null, .null, .null, .null, .null, .null, .int 0, .null, .null, .null, .int 0])) :: V1) H := by rw [hV1]; exact hP
  have hD : va_D (va_A ((h0, ob8) :: W0) s.heap.size) ((h0, .inr (8, [.ref q0, .ref q1, .null, .null, .null, .null, .null, .int 0, .int 0, .int 0, .int 0, .int 0, .int 0, .int 0, .null, .null, .null, .null, .null, .null, .null, .int 0, .null, .null, .null, .int 0])) :: V1) := by rw [hV1]; exact hD
  refine lv_aload_n hx hb dc_md_20 rfl (lv_at hl 0 rfl) ?_
  refine lv_iconst (v := 2) hx hb dc_md_21 (by decide) ?_
  refine nw_arr (atype := .boolean) (t := 2) hx hb (hts _ kc_md_aboolean) rfl hK hP hD hS hA rfl (N' := 2) (by decide) (by decide) (fun _ => rfl) (Nat.le_of_ble_eq_true rfl) (Nat.le_of_ble_eq_true rfl) (Nat.le_of_ble_eq_true rfl) dc_md_22 (fun q2 H hP hD hS => ?_)
  have hP := hP.fr1
  have hD := hD.fr1
  refine va_putF hx hb hts (cl_ok 8 _ rfl).1 tyX8 tyX8_ok nmX8 hown hK hP hD hS 0 rfl rfl 2 (by decide) (hts _ kc_md_f16) (fun _ h => h) rfl hin rfl rfl rfl rfl (Nat.le_of_ble_eq_true rfl) dc_md_24 (fun H locs hP hD hS => ?_)
  obtain ⟨V2, hV2⟩ : ∃ V : va_W, V = (q2, zA (cT 2) 2) :: V1 := ⟨_, rfl⟩
  have hP : va_P (dC, dI) vwCl ((h0, .inr (8, [.ref q0, .ref q1, .ref q2, .null, .null, .null, .null, .int 0, .int 0, .int 0, .int 0, .int 0, .int 0, .int 0, .null, .null, .null, .null, .null, .null, .null, .int 0, .null, .null, .null, .int 0])) :: V2) H := by rw [hV2]; exact hP
  have hD : va_D (va_A ((h0, ob8) :: W0) s.heap.size) ((h0, .inr (8, [.ref q0, .ref q1, .ref q2, .null, .null, .null, .null, .int 0, .int 0, .int 0, .int 0, .int 0, .int 0, .int 0, .null, .null, .null, .null, .null, .null, .null, .int 0, .null, .null, .null, .int 0])) :: V2) := by rw [hV2]; exact hD
  refine lv_aload_n hx hb dc_md_27 rfl (lv_at hl 0 rfl) ?_
  refine lv_bipush (v := 53) hx hb dc_md_28 (by decide) ?_
  refine nw_arr (atype := .int) (t := 0) hx hb (hts _ kc_md_aint) rfl hK hP hD hS hA rfl (N' := 53) (by decide) (by decide) (fun _ => rfl) (Nat.le_of_ble_eq_true rfl) (Nat.le_of_ble_eq_true rfl) (Nat.le_of_ble_eq_true rfl) dc_md_30 (fun q3 H hP hD hS => ?_)
  have hP := hP.fr1
  have hD := hD.fr1
  refine va_putF hx hb hts (cl_ok 8 _ rfl).1 tyX8 tyX8_ok nmX8 hown hK hP hD hS 0 rfl rfl 3 (by decide) (hts _ kc_md_f20) (fun _ h => h) rfl hin rfl rfl rfl rfl (Nat.le_of_ble_eq_true rfl) dc_md_32 (fun H locs hP hD hS => ?_)
  obtain ⟨V3, hV3⟩ : ∃ V : va_W, V = (q3, zA (cT 0) 53) :: V2 := ⟨_, rfl⟩
  have hP : va_P (dC, dI) vwCl ((h0, .inr (8, [.ref q0, .ref q1, .ref q2, .ref q3, .null, .null, .null, .int 0, .int 0, .int 0, .int 0, .int 0, .int 0, .int 0, .null, .null, .null, .null, .null, .null, .null, .int 0, .null, .null, .null, .int 0])) :: V3) H := by rw [hV3]; exact hP
  have hD : va_D (va_A ((h0, ob8) :: W0) s.heap.size) ((h0, .inr (8, [.ref q0, .ref q1, .ref q2, .ref q3, .null, .null, .null, .int 0, .int 0, .int 0, .int 0, .int 0, .int 0, .int 0, .null, .null, .null, .null, .null, .null, .null, .int 0, .null, .null, .null, .int 0])) :: V3) := by rw [hV3]; exact hD
  refine lv_aload_n hx hb dc_md_35 rfl (lv_at hl 0 rfl) ?_
  refine lv_bipush (v := 53) hx hb dc_md_36 (by decide) ?_
  refine nw_arr (atype := .int) (t := 0) hx hb (hts _ kc_md_aint) rfl hK hP hD hS hA rfl (N' := 53) (by decide) (by decide) (fun _ => rfl) (Nat.le_of_ble_eq_true rfl) (Nat.le_of_ble_eq_true rfl) (Nat.le_of_ble_eq_true rfl) dc_md_38 (fun q4 H hP hD hS => ?_)
  have hP := hP.fr1
  have hD := hD.fr1
  refine va_putF hx hb hts (cl_ok 8 _ rfl).1 tyX8 tyX8_ok nmX8 hown hK hP hD hS 0 rfl rfl 4 (by decide) (hts _ kc_md_f23) (fun _ h => h) rfl hin rfl rfl rfl rfl (Nat.le_of_ble_eq_true rfl) dc_md_40 (fun H locs hP hD hS => ?_)
  obtain ⟨V4, hV4⟩ : ∃ V : va_W, V = (q4, zA (cT 0) 53) :: V3 := ⟨_, rfl⟩
  have hP : va_P (dC, dI) vwCl ((h0, .inr (8, [.ref q0, .ref q1, .ref q2, .ref q3, .ref q4, .null, .null, .int 0, .int 0, .int 0, .int 0, .int 0, .int 0, .int 0, .null, .null, .null, .null, .null, .null, .null, .int 0, .null, .null, .null, .int 0])) :: V4) H := by rw [hV4]; exact hP
  have hD : va_D (va_A ((h0, ob8) :: W0) s.heap.size) ((h0, .inr (8, [.ref q0, .ref q1, .ref q2, .ref q3, .ref q4, .null, .null, .int 0, .int 0, .int 0, .int 0, .int 0, .int 0, .int 0, .null, .null, .null, .null, .null, .null, .null, .int 0, .null, .null, .null, .int 0])) :: V4) := by rw [hV4]; exact hD
  refine lv_aload_n hx hb dc_md_43 rfl (lv_at hl 0 rfl) ?_
  refine lv_sipush (v := 160) hx hb dc_md_44 (by decide) ?_
  refine nw_arr (atype := .int) (t := 0) hx hb (hts _ kc_md_aint) rfl hK hP hD hS hA rfl (N' := 160) (by decide) (by decide) (fun _ => rfl) (Nat.le_of_ble_eq_true rfl) (Nat.le_of_ble_eq_true rfl) (Nat.le_of_ble_eq_true rfl) dc_md_47 (fun q5 H hP hD hS => ?_)
  have hP := hP.fr1
  have hD := hD.fr1
  refine va_putF hx hb hts (cl_ok 8 _ rfl).1 tyX8 tyX8_ok nmX8 hown hK hP hD hS 0 rfl rfl 5 (by decide) (hts _ kc_md_f26) (fun _ h => h) rfl hin rfl rfl rfl rfl (Nat.le_of_ble_eq_true rfl) dc_md_49 (fun H locs hP hD hS => ?_)
  obtain ⟨V5, hV5⟩ : ∃ V : va_W, V = (q5, zA (cT 0) 160) :: V4 := ⟨_, rfl⟩
  have hP : va_P (dC, dI) vwCl ((h0, .inr (8, [.ref q0, .ref q1, .ref q2, .ref q3, .ref q4, .ref q5, .null, .int 0, .int 0, .int 0, .int 0, .int 0, .int 0, .int 0, .null, .null, .null, .null, .null, .null, .null, .int 0, .null, .null, .null, .int 0])) :: V5) H := by rw [hV5]; exact hP
  have hD : va_D (va_A ((h0, ob8) :: W0) s.heap.size) ((h0, .inr (8, [.ref q0, .ref q1, .ref q2, .ref q3, .ref q4, .ref q5, .null, .int 0, .int 0, .int 0, .int 0, .int 0, .int 0, .int 0, .null, .null, .null, .null, .null, .null, .null, .int 0, .null, .null, .null, .int 0])) :: V5) := by rw [hV5]; exact hD
  refine lv_aload_n hx hb dc_md_52 rfl (lv_at hl 0 rfl) ?_
  refine lv_iconst (v := 5) hx hb dc_md_53 (by decide) ?_
  refine nw_arr (atype := .boolean) (t := 2) hx hb (hts _ kc_md_aboolean) rfl hK hP hD hS hA rfl (N' := 5) (by decide) (by decide) (fun _ => rfl) (Nat.le_of_ble_eq_true rfl) (Nat.le_of_ble_eq_true rfl) (Nat.le_of_ble_eq_true rfl) dc_md_54 (fun q6 H hP hD hS => ?_)
  have hP := hP.fr1
  have hD := hD.fr1
  refine va_putF hx hb hts (cl_ok 8 _ rfl).1 tyX8 tyX8_ok nmX8 hown hK hP hD hS 0 rfl rfl 6 (by decide) (hts _ kc_md_f29) (fun _ h => h) rfl hin rfl rfl rfl rfl (Nat.le_of_ble_eq_true rfl) dc_md_56 (fun H locs hP hD hS => ?_)
  obtain ⟨V6, hV6⟩ : ∃ V : va_W, V = (q6, zA (cT 2) 5) :: V5 := ⟨_, rfl⟩
  have hP : va_P (dC, dI) vwCl ((h0, .inr (8, [.ref q0, .ref q1, .ref q2, .ref q3, .ref q4, .ref q5, .ref q6, .int 0, .int 0, .int 0, .int 0, .int 0, .int 0, .int 0, .null, .null, .null, .null, .null, .null, .null, .int 0, .null, .null, .null, .int 0])) :: V6) H := by rw [hV6]; exact hP
  have hD : va_D (va_A ((h0, ob8) :: W0) s.heap.size) ((h0, .inr (8, [.ref q0, .ref q1, .ref q2, .ref q3, .ref q4, .ref q5, .ref q6, .int 0, .int 0, .int 0, .int 0, .int 0, .int 0, .int 0, .null, .null, .null, .null, .null, .null, .null, .int 0, .null, .null, .null, .int 0])) :: V6) := by rw [hV6]; exact hD
  refine lv_aload_n hx hb dc_md_59 rfl (lv_at hl 0 rfl) ?_
  refine lv_iconst (v := 5) hx hb dc_md_60 (by decide) ?_
  refine nw_arr (atype := .int) (t := 0) hx hb (hts _ kc_md_aint) rfl hK hP hD hS hA rfl (N' := 5) (by decide) (by decide) (fun _ => rfl) (Nat.le_of_ble_eq_true rfl) (Nat.le_of_ble_eq_true rfl) (Nat.le_of_ble_eq_true rfl) dc_md_61 (fun q7 H hP hD hS => ?_)
  have hP := hP.fr1
  have hD := hD.fr1
  refine va_putF hx hb hts (cl_ok 8 _ rfl).1 tyX8 tyX8_ok nmX8 hown hK hP hD hS 0 rfl rfl 14 (by decide) (hts _ kc_md_f32) (fun _ h => h) rfl hin rfl rfl rfl rfl (Nat.le_of_ble_eq_true rfl) dc_md_63 (fun H locs hP hD hS => ?_)
  obtain ⟨V7, hV7⟩ : ∃ V : va_W, V = (q7, zA (cT 0) 5) :: V6 := ⟨_, rfl⟩
  have hP : va_P (dC, dI) vwCl ((h0, .inr (8, [.ref q0, .ref q1, .ref q2, .ref q3, .ref q4, .ref q5, .ref q6, .int 0, .int 0, .int 0, .int 0, .int 0, .int 0, .int 0, .ref q7, .null, .null, .null, .null, .null, .null, .int 0, .null, .null, .null, .int 0])) :: V7) H := by rw [hV7]; exact hP
  have hD : va_D (va_A ((h0, ob8) :: W0) s.heap.size) ((h0, .inr (8, [.ref q0, .ref q1, .ref q2, .ref q3, .ref q4, .ref q5, .ref q6, .int 0, .int 0, .int 0, .int 0, .int 0, .int 0, .int 0, .ref q7, .null, .null, .null, .null, .null, .null, .int 0, .null, .null, .null, .int 0])) :: V7) := by rw [hV7]; exact hD
  refine lv_aload_n hx hb dc_md_66 rfl (lv_at hl 0 rfl) ?_
  refine lv_bipush (v := 16) hx hb dc_md_67 (by decide) ?_
  refine nw_arr (atype := .int) (t := 0) hx hb (hts _ kc_md_aint) rfl hK hP hD hS hA rfl (N' := 16) (by decide) (by decide) (fun _ => rfl) (Nat.le_of_ble_eq_true rfl) (Nat.le_of_ble_eq_true rfl) (Nat.le_of_ble_eq_true rfl) dc_md_69 (fun q8 H hP hD hS => ?_)
  have hP := hP.fr1
  have hD := hD.fr1
  refine va_putF hx hb hts (cl_ok 8 _ rfl).1 tyX8 tyX8_ok nmX8 hown hK hP hD hS 0 rfl rfl 15 (by decide) (hts _ kc_md_f35) (fun _ h => h) rfl hin rfl rfl rfl rfl (Nat.le_of_ble_eq_true rfl) dc_md_71 (fun H locs hP hD hS => ?_)
  obtain ⟨V8, hV8⟩ : ∃ V : va_W, V = (q8, zA (cT 0) 16) :: V7 := ⟨_, rfl⟩
  have hP : va_P (dC, dI) vwCl ((h0, .inr (8, [.ref q0, .ref q1, .ref q2, .ref q3, .ref q4, .ref q5, .ref q6, .int 0, .int 0, .int 0, .int 0, .int 0, .int 0, .int 0, .ref q7, .ref q8, .null, .null, .null, .null, .null, .int 0, .null, .null, .null, .int 0])) :: V8) H := by rw [hV8]; exact hP
  have hD : va_D (va_A ((h0, ob8) :: W0) s.heap.size) ((h0, .inr (8, [.ref q0, .ref q1, .ref q2, .ref q3, .ref q4, .ref q5, .ref q6, .int 0, .int 0, .int 0, .int 0, .int 0, .int 0, .int 0, .ref q7, .ref q8, .null, .null, .null, .null, .null, .int 0, .null, .null, .null, .int 0])) :: V8) := by rw [hV8]; exact hD
  refine lv_aload_n hx hb dc_md_74 rfl (lv_at hl 0 rfl) ?_
  refine lv_bipush (v := 80) hx hb dc_md_75 (by decide) ?_
  refine nw_arr (atype := .int) (t := 0) hx hb (hts _ kc_md_aint) rfl hK hP hD hS hA rfl (N' := 80) (by decide) (by decide) (fun _ => rfl) (Nat.le_of_ble_eq_true rfl) (Nat.le_of_ble_eq_true rfl) (Nat.le_of_ble_eq_true rfl) dc_md_77 (fun q9 H hP hD hS => ?_)
  have hP := hP.fr1
  have hD := hD.fr1
  refine va_putF hx hb hts (cl_ok 8 _ rfl).1 tyX8 tyX8_ok nmX8 hown hK hP hD hS 0 rfl rfl 16 (by decide) (hts _ kc_md_f38) (fun _ h => h) rfl hin rfl rfl rfl rfl (Nat.le_of_ble_eq_true rfl) dc_md_79 (fun H locs hP hD hS => ?_)
  obtain ⟨V9, hV9⟩ : ∃ V : va_W, V = (q9, zA (cT 0) 80) :: V8 := ⟨_, rfl⟩
  have hP : va_P (dC, dI) vwCl ((h0, .inr (8, [.ref q0, .ref q1, .ref q2, .ref q3, .ref q4, .ref q5, .ref q6, .int 0, .int 0, .int 0, .int 0, .int 0, .int 0, .int 0, .ref q7, .ref q8, .ref q9, .null, .null, .null, .null, .int 0, .null, .null, .null, .int 0])) :: V9) H := by rw [hV9]; exact hP
  have hD : va_D (va_A ((h0, ob8) :: W0) s.heap.size) ((h0, .inr (8, [.ref q0, .ref q1, .ref q2, .ref q3, .ref q4, .ref q5, .ref q6, .int 0, .int 0, .int 0, .int 0, .int 0, .int 0, .int 0, .ref q7, .ref q8, .ref q9, .null, .null, .null, .null, .int 0, .null, .null, .null, .int 0])) :: V9) := by rw [hV9]; exact hD
  refine lv_aload_n hx hb dc_md_82 rfl (lv_at hl 0 rfl) ?_
  refine lv_bipush (v := 16) hx hb dc_md_83 (by decide) ?_
  refine nw_arr (atype := .boolean) (t := 2) hx hb (hts _ kc_md_aboolean) rfl hK hP hD hS hA rfl (N' := 16) (by decide) (by decide) (fun _ => rfl) (Nat.le_of_ble_eq_true rfl) (Nat.le_of_ble_eq_true rfl) (Nat.le_of_ble_eq_true rfl) dc_md_85 (fun q10 H hP hD hS => ?_)
  have hP := hP.fr1
  have hD := hD.fr1
  refine va_putF hx hb hts (cl_ok 8 _ rfl).1 tyX8 tyX8_ok nmX8 hown hK hP hD hS 0 rfl rfl 17 (by decide) (hts _ kc_md_f41) (fun _ h => h) rfl hin rfl rfl rfl rfl (Nat.le_of_ble_eq_true rfl) dc_md_87 (fun H locs hP hD hS => ?_)
  obtain ⟨V10, hV10⟩ : ∃ V : va_W, V = (q10, zA (cT 2) 16) :: V9 := ⟨_, rfl⟩
  have hP : va_P (dC, dI) vwCl ((h0, .inr (8, [.ref q0, .ref q1, .ref q2, .ref q3, .ref q4, .ref q5, .ref q6, .int 0, .int 0, .int 0, .int 0, .int 0, .int 0, .int 0, .ref q7, .ref q8, .ref q9, .ref q10, .null, .null, .null, .int 0, .null, .null, .null, .int 0])) :: V10) H := by rw [hV10]; exact hP
  have hD : va_D (va_A ((h0, ob8) :: W0) s.heap.size) ((h0, .inr (8, [.ref q0, .ref q1, .ref q2, .ref q3, .ref q4, .ref q5, .ref q6, .int 0, .int 0, .int 0, .int 0, .int 0, .int 0, .int 0, .ref q7, .ref q8, .ref q9, .ref q10, .null, .null, .null, .int 0, .null, .null, .null, .int 0])) :: V10) := by rw [hV10]; exact hD
  refine lv_aload_n hx hb dc_md_90 rfl (lv_at hl 0 rfl) ?_
  refine lv_bipush (v := 16) hx hb dc_md_91 (by decide) ?_
  refine nw_arr (atype := .int) (t := 0) hx hb (hts _ kc_md_aint) rfl hK hP hD hS hA rfl (N' := 16) (by decide) (by decide) (fun _ => rfl) (Nat.le_of_ble_eq_true rfl) (Nat.le_of_ble_eq_true rfl) (Nat.le_of_ble_eq_true rfl) dc_md_93 (fun q11 H hP hD hS => ?_)
  have hP := hP.fr1
  have hD := hD.fr1
  refine va_putF hx hb hts (cl_ok 8 _ rfl).1 tyX8 tyX8_ok nmX8 hown hK hP hD hS 0 rfl rfl 18 (by decide) (hts _ kc_md_f44) (fun _ h => h) rfl hin rfl rfl rfl rfl (Nat.le_of_ble_eq_true rfl) dc_md_95 (fun H locs hP hD hS => ?_)
  obtain ⟨V11, hV11⟩ : ∃ V : va_W, V = (q11, zA (cT 0) 16) :: V10 := ⟨_, rfl⟩
  have hP : va_P (dC, dI) vwCl ((h0, .inr (8, [.ref q0, .ref q1, .ref q2, .ref q3, .ref q4, .ref q5, .ref q6, .int 0, .int 0, .int 0, .int 0, .int 0, .int 0, .int 0, .ref q7, .ref q8, .ref q9, .ref q10, .ref q11, .null, .null, .int 0, .null, .null, .null, .int 0])) :: V11) H := by rw [hV11]; exact hP
  have hD : va_D (va_A ((h0, ob8) :: W0) s.heap.size) ((h0, .inr (8, [.ref q0, .ref q1, .ref q2, .ref q3, .ref q4, .ref q5, .ref q6, .int 0, .int 0, .int 0, .int 0, .int 0, .int 0, .int 0, .ref q7, .ref q8, .ref q9, .ref q10, .ref q11, .null, .null, .int 0, .null, .null, .null, .int 0])) :: V11) := by rw [hV11]; exact hD
  refine lv_aload_n hx hb dc_md_98 rfl (lv_at hl 0 rfl) ?_
  refine lv_bipush (v := 16) hx hb dc_md_99 (by decide) ?_
  refine nw_arr (atype := .int) (t := 0) hx hb (hts _ kc_md_aint) rfl hK hP hD hS hA rfl (N' := 16) (by decide) (by decide) (fun _ => rfl) (Nat.le_of_ble_eq_true rfl) (Nat.le_of_ble_eq_true rfl) (Nat.le_of_ble_eq_true rfl) dc_md_101 (fun q12 H hP hD hS => ?_)
  have hP := hP.fr1
  have hD := hD.fr1
  refine va_putF hx hb hts (cl_ok 8 _ rfl).1 tyX8 tyX8_ok nmX8 hown hK hP hD hS 0 rfl rfl 19 (by decide) (hts _ kc_md_f47) (fun _ h => h) rfl hin rfl rfl rfl rfl (Nat.le_of_ble_eq_true rfl) dc_md_103 (fun H locs hP hD hS => ?_)
  obtain ⟨V12, hV12⟩ : ∃ V : va_W, V = (q12, zA (cT 0) 16) :: V11 := ⟨_, rfl⟩
  have hP : va_P (dC, dI) vwCl ((h0, .inr (8, [.ref q0, .ref q1, .ref q2, .ref q3, .ref q4, .ref q5, .ref q6, .int 0, .int 0, .int 0, .int 0, .int 0, .int 0, .int 0, .ref q7, .ref q8, .ref q9, .ref q10, .ref q11, .ref q12, .null, .int 0, .null, .null, .null, .int 0])) :: V12) H := by rw [hV12]; exact hP
  have hD : va_D (va_A ((h0, ob8) :: W0) s.heap.size) ((h0, .inr (8, [.ref q0, .ref q1, .ref q2, .ref q3, .ref q4, .ref q5, .ref q6, .int 0, .int 0, .int 0, .int 0, .int 0, .int 0, .int 0, .ref q7, .ref q8, .ref q9, .ref q10, .ref q11, .ref q12, .null, .int 0, .null, .null, .null, .int 0])) :: V12) := by rw [hV12]; exact hD
  refine lv_aload_n hx hb dc_md_106 rfl (lv_at hl 0 rfl) ?_
  refine lv_bipush (v := 16) hx hb dc_md_107 (by decide) ?_
  refine nw_arr (atype := .int) (t := 0) hx hb (hts _ kc_md_aint) rfl hK hP hD hS hA rfl (N' := 16) (by decide) (by decide) (fun _ => rfl) (Nat.le_of_ble_eq_true rfl) (Nat.le_of_ble_eq_true rfl) (Nat.le_of_ble_eq_true rfl) dc_md_109 (fun q13 H hP hD hS => ?_)
  have hP := hP.fr1
  have hD := hD.fr1
  refine va_putF hx hb hts (cl_ok 8 _ rfl).1 tyX8 tyX8_ok nmX8 hown hK hP hD hS 0 rfl rfl 20 (by decide) (hts _ kc_md_f50) (fun _ h => h) rfl hin rfl rfl rfl rfl (Nat.le_of_ble_eq_true rfl) dc_md_111 (fun H locs hP hD hS => ?_)
  obtain ⟨V13, hV13⟩ : ∃ V : va_W, V = (q13, zA (cT 0) 16) :: V12 := ⟨_, rfl⟩
  have hP : va_P (dC, dI) vwCl ((h0, .inr (8, [.ref q0, .ref q1, .ref q2, .ref q3, .ref q4, .ref q5, .ref q6, .int 0, .int 0, .int 0, .int 0, .int 0, .int 0, .int 0, .ref q7, .ref q8, .ref q9, .ref q10, .ref q11, .ref q12, .ref q13, .int 0, .null, .null, .null, .int 0])) :: V13) H := by rw [hV13]; exact hP
  have hD : va_D (va_A ((h0, ob8) :: W0) s.heap.size) ((h0, .inr (8, [.ref q0, .ref q1, .ref q2, .ref q3, .ref q4, .ref q5, .ref q6, .int 0, .int 0, .int 0, .int 0, .int 0, .int 0, .int 0, .ref q7, .ref q8, .ref q9, .ref q10, .ref q11, .ref q12, .ref q13, .int 0, .null, .null, .null, .int 0])) :: V13) := by rw [hV13]; exact hD
  refine lv_aload_n hx hb dc_md_114 rfl (lv_at hl 0 rfl) ?_
  refine lv_iconst (v := 4) hx hb dc_md_115 (by decide) ?_
  refine nw_arr (atype := .int) (t := 0) hx hb (hts _ kc_md_aint) rfl hK hP hD hS hA rfl (N' := 4) (by decide) (by decide) (fun _ => rfl) (Nat.le_of_ble_eq_true rfl) (Nat.le_of_ble_eq_true rfl) (Nat.le_of_ble_eq_true rfl) dc_md_116 (fun q14 H hP hD hS => ?_)
  have hP := hP.fr1
  have hD := hD.fr1
  refine va_putF hx hb hts (cl_ok 8 _ rfl).1 tyX8 tyX8_ok nmX8 hown hK hP hD hS 0 rfl rfl 22 (by decide) (hts _ kc_md_f53) (fun _ h => h) rfl hin rfl rfl rfl rfl (Nat.le_of_ble_eq_true rfl) dc_md_118 (fun H locs hP hD hS => ?_)
  obtain ⟨V14, hV14⟩ : ∃ V : va_W, V = (q14, zA (cT 0) 4) :: V13 := ⟨_, rfl⟩
  have hP : va_P (dC, dI) vwCl ((h0, .inr (8, [.ref q0, .ref q1, .ref q2, .ref q3, .ref q4, .ref q5, .ref q6, .int 0, .int 0, .int 0, .int 0, .int 0, .int 0, .int 0, .ref q7, .ref q8, .ref q9, .ref q10, .ref q11, .ref q12, .ref q13, .int 0, .ref q14, .null, .null, .int 0])) :: V14) H := by rw [hV14]; exact hP
  have hD : va_D (va_A ((h0, ob8) :: W0) s.heap.size) ((h0, .inr (8, [.ref q0, .ref q1, .ref q2, .ref q3, .ref q4, .ref q5, .ref q6, .int 0, .int 0, .int 0, .int 0, .int 0, .int 0, .int 0, .ref q7, .ref q8, .ref q9, .ref q10, .ref q11, .ref q12, .ref q13, .int 0, .ref q14, .null, .null, .int 0])) :: V14) := by rw [hV14]; exact hD
  refine lv_aload_n hx hb dc_md_121 rfl (lv_at hl 0 rfl) ?_
  refine lv_iconst (v := 4) hx hb dc_md_122 (by decide) ?_
  refine nw_arr (atype := .int) (t := 0) hx hb (hts _ kc_md_aint) rfl hK hP hD hS hA rfl (N' := 4) (by decide) (by decide) (fun _ => rfl) (Nat.le_of_ble_eq_true rfl) (Nat.le_of_ble_eq_true rfl) (Nat.le_of_ble_eq_true rfl) dc_md_123 (fun q15 H hP hD hS => ?_)
  have hP := hP.fr1
  have hD := hD.fr1
  refine va_putF hx hb hts (cl_ok 8 _ rfl).1 tyX8 tyX8_ok nmX8 hown hK hP hD hS 0 rfl rfl 23 (by decide) (hts _ kc_md_f56) (fun _ h => h) rfl hin rfl rfl rfl rfl (Nat.le_of_ble_eq_true rfl) dc_md_125 (fun H locs hP hD hS => ?_)
  obtain ⟨V15, hV15⟩ : ∃ V : va_W, V = (q15, zA (cT 0) 4) :: V14 := ⟨_, rfl⟩
  have hP : va_P (dC, dI) vwCl ((h0, .inr (8, [.ref q0, .ref q1, .ref q2, .ref q3, .ref q4, .ref q5, .ref q6, .int 0, .int 0, .int 0, .int 0, .int 0, .int 0, .int 0, .ref q7, .ref q8, .ref q9, .ref q10, .ref q11, .ref q12, .ref q13, .int 0, .ref q14, .ref q15, .null, .int 0])) :: V15) H := by rw [hV15]; exact hP
  have hD : va_D (va_A ((h0, ob8) :: W0) s.heap.size) ((h0, .inr (8, [.ref q0, .ref q1, .ref q2, .ref q3, .ref q4, .ref q5, .ref q6, .int 0, .int 0, .int 0, .int 0, .int 0, .int 0, .int 0, .ref q7, .ref q8, .ref q9, .ref q10, .ref q11, .ref q12, .ref q13, .int 0, .ref q14, .ref q15, .null, .int 0])) :: V15) := by rw [hV15]; exact hD
  refine lv_aload_n hx hb dc_md_128 rfl (lv_at hl 0 rfl) ?_
  refine lv_sipush (v := 160) hx hb dc_md_129 (by decide) ?_
  refine nw_arr (atype := .int) (t := 0) hx hb (hts _ kc_md_aint) rfl hK hP hD hS hA rfl (N' := 160) (by decide) (by decide) (fun _ => rfl) (Nat.le_of_ble_eq_true rfl) (Nat.le_of_ble_eq_true rfl) (Nat.le_of_ble_eq_true rfl) dc_md_132 (fun q16 H hP hD hS => ?_)
  have hP := hP.fr1
  have hD := hD.fr1
  refine va_putF hx hb hts (cl_ok 8 _ rfl).1 tyX8 tyX8_ok nmX8 hown hK hP hD hS 0 rfl rfl 24 (by decide) (hts _ kc_md_f59) (fun _ h => h) rfl hin rfl rfl rfl rfl (Nat.le_of_ble_eq_true rfl) dc_md_134 (fun H locs hP hD hS => ?_)
  obtain ⟨V16, hV16⟩ : ∃ V : va_W, V = (q16, zA (cT 0) 160) :: V15 := ⟨_, rfl⟩
  have hP : va_P (dC, dI) vwCl ((h0, .inr (8, [.ref q0, .ref q1, .ref q2, .ref q3, .ref q4, .ref q5, .ref q6, .int 0, .int 0, .int 0, .int 0, .int 0, .int 0, .int 0, .ref q7, .ref q8, .ref q9, .ref q10, .ref q11, .ref q12, .ref q13, .int 0, .ref q14, .ref q15, .ref q16, .int 0])) :: V16) H := by rw [hV16]; exact hP
  have hD : va_D (va_A ((h0, ob8) :: W0) s.heap.size) ((h0, .inr (8, [.ref q0, .ref q1, .ref q2, .ref q3, .ref q4, .ref q5, .ref q6, .int 0, .int 0, .int 0, .int 0, .int 0, .int 0, .int 0, .ref q7, .ref q8, .ref q9, .ref q10, .ref q11, .ref q12, .ref q13, .int 0, .ref q14, .ref q15, .ref q16, .int 0])) :: V16) := by rw [hV16]; exact hD
  subst hV16
  subst hV15
  subst hV14
  subst hV13
  subst hV12
  subst hV11
  subst hV10
  subst hV9
  subst hV8
  subst hV7
  subst hV6
  subst hV5
  subst hV4
  subst hV3
  subst hV2
  subst hV1
  subst hV0
  refine W.widen (k := 17) (n := 765) (Nat.le_of_ble_eq_true rfl) (Nat.le_of_ble_eq_true rfl) ?_
  obtain ⟨hlen, ad, had, hat⟩ := hG
  have hM := wM_at cT ad sd h0 q0 q1 q2 q3 q4 q5 q6 q7 q8 q9 q10 q11 q12 q13 q14 q15 q16 W0 hat
  have hP : va_P (dC, dI) vwCl (wM cT h0 q0 q1 q2 q3 q4 q5 q6 q7 q8 q9 q10 q11 q12 q13 q14 q15 q16 W0) H := hP
  have hD : va_D (va_A ((h0, ob8) :: W0) s.heap.size) (wM cT h0 q0 q1 q2 q3 q4 q5 q6 q7 q8 q9 q10 q11 q12 q13 q14 q15 q16 W0) := hD
  obtain ⟨adN, hadN⟩ : ∃ f : Nat → Nat, f = adM ad sd [h0, q0, q1, q2, q3, q4, q5, q6, q7, q8, q9, q10, q11, q12, q13, q14, q15, q16] := ⟨_, rfl⟩
  rw [← hadN] at hM
  have a0 : adN 0 = x0 := by rw [hadN]; exact had
  have a80 : adN 80 = h0 := by rw [hadN]; rfl
  have a100 : ∀ i, 100 ≤ i → adN i = sd i := fun i hi => by
    rw [hadN]
    unfold adM
    rw [if_neg (by omega), if_neg (by omega)]
  have hPW := wM_P hM hP
  obtain ⟨hinj, hAD⟩ := wM_inj hM hD
  have hlen98 : (wM cT h0 q0 q1 q2 q3 q4 q5 q6 q7 q8 q9 q10 q11 q12 q13 q14 q15 q16 W0).length = 98 := by simp [hlen]
  have hall : ∀ {k : Nat} {q : Nat × va_E}, (wM cT h0 q0 q1 q2 q3 q4 q5 q6 q7 q8 q9 q10 q11 q12 q13 q14 q15 q16 W0)[k]? = some q → AD adN q.1 := fun hk => wM_all hlen98 hM hk
  have hold : ∀ q, q < s.heap.size → (va_A ((h0, ob8) :: W0) s.heap.size) q → AD adN q := by
    intro q hq hA
    rcases hA with ⟨k, e, hk⟩ | hA
    · rcases k with _ | k
      · cases hk
        exact hall (k := 0) rfl
      · exact hall (k := k + 18) (q := (q, e)) hk
    · omega
  have hnew : ∀ q, AD adN q → sz0 ≤ q := by
    intro q hq
    rcases hAD q hq with ⟨k, e, hk⟩ | h
    · exact hD0.2 k _ hk
    · omega
  have hWO : WO adN cT dC dI adV s s.heap := ⟨hinj, hK, hWK.2.1, hSR.ok a100 hnew⟩
  obtain ⟨n, r, M', hrun, hrn, p1, p2, p3⟩ := cm_init 1 M0
  subst hrn
  have hWG := so_run (ad := adN) (cT := cT) (dC := dC) (dI := dI) (adV := adV) l n 2 105 _ none M' hrun (8, yX8_init, cX8_init, 2, none, 1, false) rfl (p := p) (e := e) (R := rmN 3 17 765) (s := s) (m := m) (args := _) (below := below) (meth := meth) (c := c) (cells := 17) (slots := 765) (Qc := QcM cT dC dI sd x0 h0 sz0 s.heap.size W0) (free := (va_A ((h0, ob8) :: W0) s.heap.size)) ⟨hx, hb, hr, hml, ⟨RX8, rfl, hown⟩, hts, hlocks, hWO⟩ ⟨Nat.le_of_ble_eq_true rfl, Nat.le_of_ble_eq_true rfl⟩ (Nat.le_refl _) (Nat.le_refl _) (fun H locs hP1 hS1 t ht hW => ⟨⟨rfl, adN, M', a0, a80, a100, inv0 p1 p2 p3, hinj, hnew, by rw [ht]; exact hP1⟩, ⟨by rw [ht]; exact hS1.1, fun q h1 h2 => by rw [ht]; exact hS1.2.1 q h1 (fun z => h2 (hAD q z))⟩⟩) hAD
  refine w_cut ?_
  refine hWG ls H _ ⟨hl.1, rfl, hl.2.1, fun i v hv => ?_⟩ hPW ⟨hS.1, fun q h1 h2 => hS.2.1 q h1 (fun z => h2 (hold q h1 z)), fun q hq => ?_⟩
  · match i with
    | 0 =>
      cases hv
      have := hl.2.2 (0, .ref h0) (by simp)
      rw [show cz adN (.inr (.inr 80)) = .ref h0 by show Value.ref (adN 80) = _; rw [a80]]
      exact this
    | 1 => cases hv
    | n + 2 => cases hv
  · obtain ⟨q1, q2⟩ := List.mem_filter.mp hq
    exact hold _ (of_decide_eq_true q2) (hS.2.2 q q1)
end CTORS
