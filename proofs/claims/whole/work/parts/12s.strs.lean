/-! String.length(), charAt() of constants -/
set_option maxRecDepth 20000 in
theorem kc_coder : Cond.code yJ0_coder_7d493 cJ0_coder_7d493 1 (some .byte) ∈ GW := gw_at 454 rfl rfl
theorem ki_coder : Cond.instanceMethod yJ0_coder_7d493 ∈ GW := gw_at 452 (by decide +kernel) (by decide +kernel)
theorem ke_coder : Cond.selects yJ0_coder_7d493.cls yJ0_coder_7d493 yJ0_coder_7d493 ∈ GW := gw_at 453 (by decide +kernel) (by decide +kernel)
set_option maxRecDepth 20000 in
theorem kc_length : Cond.code yJ0_length_8abf5 cJ0_length_8abf5 1 (some .int) ∈ GW := gw_at 450 rfl rfl
theorem ki_length : Cond.instanceMethod yJ0_length_8abf5 ∈ GW := gw_at 448 (by decide +kernel) (by decide +kernel)
theorem ke_length : Cond.selects yJ0_length_8abf5.cls yJ0_length_8abf5 yJ0_length_8abf5 ∈ GW := gw_at 449 (by decide +kernel) (by decide +kernel)
set_option maxRecDepth 20000 in
theorem kc_lat : Cond.code yJ0_isLatin1_aae02 cJ0_isLatin1_aae02 1 (some .boolean) ∈ GW := gw_at 465 rfl rfl
theorem ki_lat : Cond.instanceMethod yJ0_isLatin1_aae02 ∈ GW := gw_at 463 (by decide +kernel) (by decide +kernel)
theorem ke_lat : Cond.selects yJ0_isLatin1_aae02.cls yJ0_isLatin1_aae02 yJ0_isLatin1_aae02 ∈ GW := gw_at 464 (by decide +kernel) (by decide +kernel)
set_option maxRecDepth 20000 in
theorem kc_chr : Cond.code yJ0_charAt_5068e cJ0_charAt_5068e 2 (some .char) ∈ GW := gw_at 461 rfl rfl
theorem ki_chr : Cond.instanceMethod yJ0_charAt_5068e ∈ GW := gw_at 459 (by decide +kernel) (by decide +kernel)
theorem ke_chr : Cond.selects yJ0_charAt_5068e.cls yJ0_charAt_5068e yJ0_charAt_5068e ∈ GW := gw_at 460 (by decide +kernel) (by decide +kernel)
set_option maxRecDepth 20000 in
theorem kc_sci : Cond.code yJ0_checkIndex_df160 cJ0_checkIndex_df160 2 none ∈ GW := gw_at 471 rfl rfl
theorem ks_sci : Cond.static yJ0_checkIndex_df160 ∈ GW := gw_at 470 (by decide +kernel) (by decide +kernel)
set_option maxRecDepth 20000 in
theorem kc_lch : Cond.code yJ1_charAt_3b067 cJ1_charAt_3b067 2 (some .char) ∈ GW := gw_at 468 rfl rfl
theorem ks_lch : Cond.static yJ1_charAt_3b067 ∈ GW := gw_at 467 (by decide +kernel) (by decide +kernel)
set_option maxRecDepth 20000 in
theorem kc_pci : Cond.code yJ3_checkIndex_8e157 cJ3_checkIndex_8e157 3 (some .int) ∈ GW := gw_at 476 rfl rfl
theorem ks_pci : Cond.static yJ3_checkIndex_8e157 ∈ GW := gw_at 475 (by decide +kernel) (by decide +kernel)
theorem kn_J0 : Cond.initialized RJ0 ∈ GW := gw_at 124 (by decide +kernel) (by decide +kernel)
theorem kn_J1 : Cond.initialized RJ1 ∈ GW := gw_at 125 (by decide +kernel) (by decide +kernel)
theorem kn_J3 : Cond.initialized RJ3 ∈ GW := gw_at 126 (by decide +kernel) (by decide +kernel)
theorem kl_coder : Cond.methodLink RJ0 335 yJ0_coder_7d493 ∈ GW := gw_at 451 (by decide +kernel) (by decide +kernel)
theorem kl_lat : Cond.methodLink RJ0 492 yJ0_isLatin1_aae02 ∈ GW := gw_at 462 (by decide +kernel) (by decide +kernel)
theorem kl_lch : Cond.methodLink RJ0 495 yJ1_charAt_3b067 ∈ GW := gw_at 466 (by decide +kernel) (by decide +kernel)
theorem kl_sci : Cond.methodLink RJ1 9 yJ0_checkIndex_df160 ∈ GW := gw_at 469 (by decide +kernel) (by decide +kernel)
theorem kl_pci : Cond.methodLink RJ0 1059 yJ3_checkIndex_8e157 ∈ GW := gw_at 474 (by decide +kernel) (by decide +kernel)
theorem kf_value : Cond.fieldLink RJ0 9 "java/lang/String" "value" "[B" ∈ GW := gw_at 1340 (by decide +kernel) (by decide +kernel)
theorem kf_coder : Cond.fieldLink RJ0 15 "java/lang/String" "coder" "B" ∈ GW := gw_at 1341 (by decide +kernel) (by decide +kernel)
theorem kf_comp : Cond.fieldLink RJ0 38 "java/lang/String" "COMPACT_STRINGS" "Z" ∈ GW := gw_at 455 (by decide +kernel) (by decide +kernel)
theorem kf_sio : Cond.fieldLink RJ0 1053 "jdk/internal/util/Preconditions" "SIOOBE_FORMATTER" "Ljava/util/function/BiFunction;" ∈ GW := gw_at 472 (by decide +kernel) (by decide +kernel)
theorem dd_coder_0 : decode cJ0_coder_7d493 0 = .ok (.getstatic 38, 3) := by decide +kernel
theorem dd_coder_3 : decode cJ0_coder_7d493 3 = .ok (.ifCond .eq 10, 3) := by decide +kernel
theorem dd_coder_6 : decode cJ0_coder_7d493 6 = .ok (.aload_n 0, 1) := by decide +kernel
theorem dd_coder_7 : decode cJ0_coder_7d493 7 = .ok (.getfield 15, 3) := by decide +kernel
theorem dd_coder_10 : decode cJ0_coder_7d493 10 = .ok (.goto 4, 3) := by decide +kernel
theorem dd_coder_13 : decode cJ0_coder_7d493 13 = .ok (.iconst 1, 1) := by decide +kernel
theorem dd_coder_14 : decode cJ0_coder_7d493 14 = .ok (.ireturn, 1) := by decide +kernel
theorem dd_length_0 : decode cJ0_length_8abf5 0 = .ok (.aload_n 0, 1) := by decide +kernel
theorem dd_length_1 : decode cJ0_length_8abf5 1 = .ok (.getfield 9, 3) := by decide +kernel
theorem dd_length_4 : decode cJ0_length_8abf5 4 = .ok (.arraylength, 1) := by decide +kernel
theorem dd_length_5 : decode cJ0_length_8abf5 5 = .ok (.aload_n 0, 1) := by decide +kernel
theorem dd_length_6 : decode cJ0_length_8abf5 6 = .ok (.invokevirtual 335, 3) := by decide +kernel
theorem dd_length_9 : decode cJ0_length_8abf5 9 = .ok (.ishr, 1) := by decide +kernel
theorem dd_length_10 : decode cJ0_length_8abf5 10 = .ok (.ireturn, 1) := by decide +kernel
theorem dd_lat_0 : decode cJ0_isLatin1_aae02 0 = .ok (.getstatic 38, 3) := by decide +kernel
theorem dd_lat_3 : decode cJ0_isLatin1_aae02 3 = .ok (.ifCond .eq 14, 3) := by decide +kernel
theorem dd_lat_6 : decode cJ0_isLatin1_aae02 6 = .ok (.aload_n 0, 1) := by decide +kernel
theorem dd_lat_7 : decode cJ0_isLatin1_aae02 7 = .ok (.getfield 15, 3) := by decide +kernel
theorem dd_lat_10 : decode cJ0_isLatin1_aae02 10 = .ok (.ifCond .ne 7, 3) := by decide +kernel
theorem dd_lat_13 : decode cJ0_isLatin1_aae02 13 = .ok (.iconst 1, 1) := by decide +kernel
theorem dd_lat_14 : decode cJ0_isLatin1_aae02 14 = .ok (.goto 4, 3) := by decide +kernel
theorem dd_lat_17 : decode cJ0_isLatin1_aae02 17 = .ok (.iconst 0, 1) := by decide +kernel
theorem dd_lat_18 : decode cJ0_isLatin1_aae02 18 = .ok (.ireturn, 1) := by decide +kernel
theorem dd_chr_0 : decode cJ0_charAt_5068e 0 = .ok (.aload_n 0, 1) := by decide +kernel
theorem dd_chr_1 : decode cJ0_charAt_5068e 1 = .ok (.invokevirtual 492, 3) := by decide +kernel
theorem dd_chr_4 : decode cJ0_charAt_5068e 4 = .ok (.ifCond .eq 12, 3) := by decide +kernel
theorem dd_chr_7 : decode cJ0_charAt_5068e 7 = .ok (.aload_n 0, 1) := by decide +kernel
theorem dd_chr_8 : decode cJ0_charAt_5068e 8 = .ok (.getfield 9, 3) := by decide +kernel
theorem dd_chr_11 : decode cJ0_charAt_5068e 11 = .ok (.iload_n 1, 1) := by decide +kernel
theorem dd_chr_12 : decode cJ0_charAt_5068e 12 = .ok (.invokestatic 495, 3) := by decide +kernel
theorem dd_chr_15 : decode cJ0_charAt_5068e 15 = .ok (.ireturn, 1) := by decide +kernel
theorem dd_chr_16 : decode cJ0_charAt_5068e 16 = .ok (.aload_n 0, 1) := by decide +kernel
theorem dd_chr_17 : decode cJ0_charAt_5068e 17 = .ok (.getfield 9, 3) := by decide +kernel
theorem dd_chr_20 : decode cJ0_charAt_5068e 20 = .ok (.iload_n 1, 1) := by decide +kernel
theorem dd_chr_21 : decode cJ0_charAt_5068e 21 = .ok (.invokestatic 498, 3) := by decide +kernel
theorem dd_chr_24 : decode cJ0_charAt_5068e 24 = .ok (.ireturn, 1) := by decide +kernel
theorem dd_sci_0 : decode cJ0_checkIndex_df160 0 = .ok (.iload_n 0, 1) := by decide +kernel
theorem dd_sci_1 : decode cJ0_checkIndex_df160 1 = .ok (.iload_n 1, 1) := by decide +kernel
theorem dd_sci_2 : decode cJ0_checkIndex_df160 2 = .ok (.getstatic 1053, 3) := by decide +kernel
theorem dd_sci_5 : decode cJ0_checkIndex_df160 5 = .ok (.invokestatic 1059, 3) := by decide +kernel
theorem dd_sci_8 : decode cJ0_checkIndex_df160 8 = .ok (.pop, 1) := by decide +kernel
theorem dd_sci_9 : decode cJ0_checkIndex_df160 9 = .ok (.return_, 1) := by decide +kernel
theorem dd_lch_0 : decode cJ1_charAt_3b067 0 = .ok (.iload_n 1, 1) := by decide +kernel
theorem dd_lch_1 : decode cJ1_charAt_3b067 1 = .ok (.aload_n 0, 1) := by decide +kernel
theorem dd_lch_2 : decode cJ1_charAt_3b067 2 = .ok (.arraylength, 1) := by decide +kernel
theorem dd_lch_3 : decode cJ1_charAt_3b067 3 = .ok (.invokestatic 9, 3) := by decide +kernel
theorem dd_lch_6 : decode cJ1_charAt_3b067 6 = .ok (.aload_n 0, 1) := by decide +kernel
theorem dd_lch_7 : decode cJ1_charAt_3b067 7 = .ok (.iload_n 1, 1) := by decide +kernel
theorem dd_lch_8 : decode cJ1_charAt_3b067 8 = .ok (.baload, 1) := by decide +kernel
theorem dd_lch_9 : decode cJ1_charAt_3b067 9 = .ok (.sipush 255, 3) := by decide +kernel
theorem dd_lch_12 : decode cJ1_charAt_3b067 12 = .ok (.iand, 1) := by decide +kernel
theorem dd_lch_13 : decode cJ1_charAt_3b067 13 = .ok (.i2c, 1) := by decide +kernel
theorem dd_lch_14 : decode cJ1_charAt_3b067 14 = .ok (.ireturn, 1) := by decide +kernel
theorem dd_pci_0 : decode cJ3_checkIndex_8e157 0 = .ok (.iload_n 0, 1) := by decide +kernel
theorem dd_pci_1 : decode cJ3_checkIndex_8e157 1 = .ok (.ifCond .lt 8, 3) := by decide +kernel
theorem dd_pci_4 : decode cJ3_checkIndex_8e157 4 = .ok (.iload_n 0, 1) := by decide +kernel
theorem dd_pci_5 : decode cJ3_checkIndex_8e157 5 = .ok (.iload_n 1, 1) := by decide +kernel
theorem dd_pci_6 : decode cJ3_checkIndex_8e157 6 = .ok (.if_icmp .lt 10, 3) := by decide +kernel
theorem dd_pci_9 : decode cJ3_checkIndex_8e157 9 = .ok (.aload_n 2, 1) := by decide +kernel
theorem dd_pci_10 : decode cJ3_checkIndex_8e157 10 = .ok (.iload_n 0, 1) := by decide +kernel
theorem dd_pci_11 : decode cJ3_checkIndex_8e157 11 = .ok (.iload_n 1, 1) := by decide +kernel
theorem dd_pci_12 : decode cJ3_checkIndex_8e157 12 = .ok (.invokestatic 95, 3) := by decide +kernel
theorem dd_pci_15 : decode cJ3_checkIndex_8e157 15 = .ok (.athrow, 1) := by decide +kernel
theorem dd_pci_16 : decode cJ3_checkIndex_8e157 16 = .ok (.iload_n 0, 1) := by decide +kernel
theorem dd_pci_17 : decode cJ3_checkIndex_8e157 17 = .ok (.ireturn, 1) := by decide +kernel
section SOSTR
variable {ad : Nat → Nat} {adV : Nat → Nat}
variable {p : Program} {l : Launch} {e : Env} {R : Room} {s : State} {m : MethodId} {args : Array Value} {below : List Frame} {meth : Method} {c : Code} {cells slots : Nat} {Q : State → Prop}
theorem StrOK.go {H : Heap} {locs : List Loc} (h : StrOK ad adV s s.heap) (hS : va_S (AD ad) s.heap H locs) {U : State} (hU : U.heap = H) (hW : s.WarmedH U.vm) : StrOK ad adV U U.heap := by
  obtain ⟨h4, h5, h6, h7⟩ := h
  refine ⟨?_, fun e he => ?_, ?_, ?_⟩
  · rw [hU]
    exact vk_S.moved hW.alike (vk_S.kept h4 hS.2.1)
  · obtain ⟨own, tx, g1, g2⟩ := h5 e he
    exact ⟨own, tx, g1, vk_R.warm hW g2⟩
  · rw [hU]
    exact va_Z.moved hW.alike (va_Z.kept h6 hS.2.1)
  · rw [hU]
    exact va_Zq.moved hW.alike (va_Zq.kept h7 hS.2.1)
theorem StrOK.same {U U' : State} (h : StrOK ad adV U U.heap) (hv : U'.vm = U.vm) (hh : U'.heap = U.heap) : StrOK ad adV U' U'.heap := by
  obtain ⟨h4, h5, h6, h7⟩ := h
  have ha : U.vm.Alike U'.vm := by rw [hv]; exact Vm.Alike.refl _
  refine ⟨?_, fun e he => ?_, ?_, ?_⟩
  · rw [hh]
    exact vk_S.moved ha h4
  · obtain ⟨own, tx, g1, g2⟩ := h5 e he
    exact ⟨own, tx, g1, vk_R.same hv g2⟩
  · rw [hh]
    exact va_Z.moved ha h6
  · rw [hh]
    exact va_Zq.moved ha h7
def rmS (D : Nat) : Room := { frames := D, cells := 0, slots := 0, locals := 100 * D }
def PcS (ad adV : Nat → Nat) (as : List Value) : Array Value → State → Prop := va_Pc as (fun U => StrOK ad adV U U.heap)
def QcS (r : Option Value) : Array Value → State → Outcome → State → Prop := fun _ st oc t => oc = .returned r ∧ t.heap = st.heap
theorem PcS_blind (as : List Value) : FrameBlind (PcS ad adV as) := fun a U g mk q => ⟨q.1, StrOK.same q.2 rfl rfl⟩
theorem gwc {y : MethodName} {cc : ByteArray} {n : Nat} {ret : Option FieldType} (h : Cond.code y cc n ret ∈ GW) : GoodIn GW (Cond.code y cc n ret :: GW) := by
  intro w hw
  have hg : w ∈ GW := by
    rcases List.mem_cons.mp hw with rfl | q
    · exact h
    · exact q
  exact ⟨hg, good_of_word (List.mem_filter.mp hg).2⟩
theorem so_pure {H : Heap} {locs : List Loc} {ls : Array Slot} {st0 rest : List Value} {pc : Nat} {r : Option Value} {a : Array Value} (hr : va_Run p l e R s m args below meth c H locs cells slots 0 0 (F0 m pc ls st0) rest (QcS r a) (fun _ => False)) (kk : W p l e R s m args below meth c H locs cells slots Q (F0 m (pc + 3) ls (r.toList ++ rest))) : W p l e R s m args below meth c H locs cells slots Q (F0 m pc ls st0) := by
  intro T hT X
  obtain ⟨v, st₀, t, T', L, h0, X', hL, e1, e2, ⟨hv, hp⟩, st⟩ := hr T hT X
  cases hv
  have hL0 : L = [] := by
    cases L with
    | nil => rfl
    | cons a L => exact (hL a List.mem_cons_self).elim
  subst hL0
  obtain ⟨t2, a1, b1⟩ := kk T' (by rw [e1, hp, h0]) (by simpa using X')
  exact ⟨t2, st t2 a1, b1⟩
set_option maxHeartbeats 4000000 in
set_option maxRecDepth 20000 in
theorem s_coder (l : Launch) (i : Nat) (hi : i < 5) : Met l yJ0_coder_7d493 (Cond.code yJ0_coder_7d493 cJ0_coder_7d493 1 (some .byte) :: GW) (rmS 0) (PcS ad adV [.ref (ad (100 + i))]) (QcS (some (.int 0))) 0 0 (fun _ => False) := by
  refine Met.ofW (cc := cJ0_coder_7d493) (maxL := 1) (ret := (some .byte)) (by decide) rfl ?_
  intro p e s m args below meth c s₁ B hml hv
  obtain ⟨rfl, hW⟩ := hv
  have hts0 := atoms_spec (ws := Cond.code yJ0_coder_7d493 cJ0_coder_7d493 1 (some .byte) :: GW) B.pre
  have hts : ∀ w ∈ GW, w.before _ s = true := fun w hw => hts0 w (List.mem_cons_of_mem _ hw)
  have hown : s.vm.findClass RJ0 = some m.cls := findClass_of_methodNamed B.named
  have hx := B.exec
  have hb := B.bytes
  have hr := B.returns
  have hlocks := B.notSynchronized
  obtain ⟨hT, hR, hZ, hZq⟩ := id hW
  have hS : va_S (AD ad) s.heap s.heap [] := va_S.rf
  have hl := lv_entry [.ref (ad (100 + i))] (n := 1) (Nat.le_of_ble_eq_true rfl)
  rw [lg_entry_eq]
  generalize (lg_sl [.ref (ad (100 + i))] ++ List.replicate (1 - (lg_sl [.ref (ad (100 + i))]).length) Slot.unset).toArray = ls at hl ⊢
  have hl : lv_has ls 1 [(0, .ref (ad (100 + i)))] := hl
  refine va_gets hx hb hZ hS hown (hts _ kf_comp) (fun _ h => h) dd_coder_0 ?_
  refine lv_if_eq (tgt := 13) hx hb dd_coder_3 (by decide) (fun g => absurd g (by decide)) (fun _ => ?_)
  refine lv_aload_n hx hb dd_coder_6 rfl (lv_at hl 0 rfl) ?_
  refine vk_getf hx hb (hT.1 i hi).2.1 hS hown (hts _ kf_coder) (fun _ h => h) dd_coder_7 ?_
  refine lv_goto (tgt := 14) hx hb dd_coder_10 (by decide) ?_
  exact W.zret hx hb hr rfl (fun t ht hW => ⟨rfl, ht⟩) (fun q hq => by cases hq) dd_coder_14 hlocks
set_option maxHeartbeats 4000000 in
set_option maxRecDepth 20000 in
theorem s_lat (l : Launch) (i : Nat) (hi : i < 5) : Met l yJ0_isLatin1_aae02 (Cond.code yJ0_isLatin1_aae02 cJ0_isLatin1_aae02 1 (some .boolean) :: GW) (rmS 0) (PcS ad adV [.ref (ad (100 + i))]) (QcS (some (.int 1))) 0 0 (fun _ => False) := by
  refine Met.ofW (cc := cJ0_isLatin1_aae02) (maxL := 1) (ret := (some .boolean)) (by decide) rfl ?_
  intro p e s m args below meth c s₁ B hml hv
  obtain ⟨rfl, hW⟩ := hv
  have hts0 := atoms_spec (ws := Cond.code yJ0_isLatin1_aae02 cJ0_isLatin1_aae02 1 (some .boolean) :: GW) B.pre
  have hts : ∀ w ∈ GW, w.before _ s = true := fun w hw => hts0 w (List.mem_cons_of_mem _ hw)
  have hown : s.vm.findClass RJ0 = some m.cls := findClass_of_methodNamed B.named
  have hx := B.exec
  have hb := B.bytes
  have hr := B.returns
  have hlocks := B.notSynchronized
  obtain ⟨hT, hR, hZ, hZq⟩ := id hW
  have hS : va_S (AD ad) s.heap s.heap [] := va_S.rf
  have hl := lv_entry [.ref (ad (100 + i))] (n := 1) (Nat.le_of_ble_eq_true rfl)
  rw [lg_entry_eq]
  generalize (lg_sl [.ref (ad (100 + i))] ++ List.replicate (1 - (lg_sl [.ref (ad (100 + i))]).length) Slot.unset).toArray = ls at hl ⊢
  have hl : lv_has ls 1 [(0, .ref (ad (100 + i)))] := hl
  refine va_gets hx hb hZ hS hown (hts _ kf_comp) (fun _ h => h) dd_lat_0 ?_
  refine lv_if_eq (tgt := 17) hx hb dd_lat_3 (by decide) (fun g => absurd g (by decide)) (fun _ => ?_)
  refine lv_aload_n hx hb dd_lat_6 rfl (lv_at hl 0 rfl) ?_
  refine vk_getf hx hb (hT.1 i hi).2.1 hS hown (hts _ kf_coder) (fun _ h => h) dd_lat_7 ?_
  refine lv_if_ne (tgt := 17) hx hb dd_lat_10 (by decide) (fun g => absurd g (by decide)) (fun _ => ?_)
  refine lv_iconst (v := 1) hx hb dd_lat_13 (by decide) ?_
  refine lv_goto (tgt := 18) hx hb dd_lat_14 (by decide) ?_
  exact W.zret hx hb hr rfl (fun t ht hW => ⟨rfl, ht⟩) (fun q hq => by cases hq) dd_lat_18 hlocks
theorem len_shr : ∀ i, i < 5 → (Int32.ofNat (LEN.getD i 0)) >>> ((0 : Int32) &&& 31) = Int32.ofNat (LEN.getD i 0) := by decide
set_option maxHeartbeats 4000000 in
set_option maxRecDepth 20000 in
theorem s_len (l : Launch) (i : Nat) (hi : i < 5) : Met l yJ0_length_8abf5 (Cond.code yJ0_length_8abf5 cJ0_length_8abf5 1 (some .int) :: GW) (rmS 1) (PcS ad adV [.ref (ad (100 + i))]) (QcS (some (.int (Int32.ofNat (LEN.getD i 0))))) 0 0 (fun _ => False) := by
  refine Met.ofW (cc := cJ0_length_8abf5) (maxL := 1) (ret := (some .int)) (by decide) rfl ?_
  intro p e s m args below meth c s₁ B hml hv
  obtain ⟨rfl, hW⟩ := hv
  have hts0 := atoms_spec (ws := Cond.code yJ0_length_8abf5 cJ0_length_8abf5 1 (some .int) :: GW) B.pre
  have hts : ∀ w ∈ GW, w.before _ s = true := fun w hw => hts0 w (List.mem_cons_of_mem _ hw)
  have hown : s.vm.findClass RJ0 = some m.cls := findClass_of_methodNamed B.named
  have hx := B.exec
  have hb := B.bytes
  have hr := B.returns
  have hlocks := B.notSynchronized
  obtain ⟨hT, hR, hZ, hZq⟩ := id hW
  have hS : va_S (AD ad) s.heap s.heap [] := va_S.rf
  have hl := lv_entry [.ref (ad (100 + i))] (n := 1) (Nat.le_of_ble_eq_true rfl)
  rw [lg_entry_eq]
  generalize (lg_sl [.ref (ad (100 + i))] ++ List.replicate (1 - (lg_sl [.ref (ad (100 + i))]).length) Slot.unset).toArray = ls at hl ⊢
  have hl : lv_has ls 1 [(0, .ref (ad (100 + i)))] := hl
  refine lv_aload_n hx hb dd_length_0 rfl (lv_at hl 0 rfl) ?_
  refine vk_getf hx hb (hT.1 i hi).2.2.1 hS hown (hts _ kf_value) (fun _ h => h) dd_length_1 ?_
  refine va_tlen hx hb (hT.1 i hi).2.2.2 hS rfl dd_length_4 ?_
  refine lv_aload_n hx hb dd_length_5 rfl (lv_at hl 0 rfl) ?_
  refine so_pure (va_runV (C := yJ0_coder_7d493.cls) (Ts := GW) (As := []) (rest := [.int (Int32.ofNat (LEN.getD i 0))]) ⟨hx, hb, hml, hown, hts⟩ (s_coder (ad := ad) (adV := adV) l i hi) ⟨callB_of (Ts := GW) (ws' := GW) 0 hts (gwc kc_coder) rfl rfl rfl (hts _ kn_J0) (hts _ kl_coder) ⟨by decide +kernel, by decide +kernel, by decide +kernel⟩ ⟨Nat.le_of_ble_eq_true rfl, Nat.le_of_ble_eq_true rfl⟩, hts _ ki_coder, hts _ ke_coder⟩ ⟨PcS_blind _, vk_recv hT hi hS, fun U hU hW2 => ⟨rfl, StrOK.go hW hS hU hW2⟩⟩ rfl rfl hl.1 rfl (lv_room (Nat.le_of_ble_eq_true rfl)) dd_length_6 ⟨Nat.zero_le _, Nat.zero_le _⟩) ?_
  refine lv_ishr hx hb dd_length_9 ?_
  rw [len_shr i hi]
  exact W.iret hx hb hr (fun t ht hW => ⟨rfl, ht⟩) (fun q hq => by cases hq) dd_length_10 hlocks
set_option maxHeartbeats 4000000 in
set_option maxRecDepth 20000 in
theorem s_pci (l : Launch) (x n : Int32) (h0 : ¬ x < 0) (h1 : x < n) (f : Value) (hf : f = .null ∨ ∃ t, f = .ref t) : Met l yJ3_checkIndex_8e157 (Cond.code yJ3_checkIndex_8e157 cJ3_checkIndex_8e157 3 (some .int) :: GW) (rmS 0) (PcS ad adV [.int x, .int n, f]) (QcS (some (.int x))) 0 0 (fun _ => False) := by
  refine Met.ofW (cc := cJ3_checkIndex_8e157) (maxL := 3) (ret := (some .int)) (by decide) rfl ?_
  intro p e s m args below meth c s₁ B hml hv
  obtain ⟨rfl, hW⟩ := hv
  have hts0 := atoms_spec (ws := Cond.code yJ3_checkIndex_8e157 cJ3_checkIndex_8e157 3 (some .int) :: GW) B.pre
  have hts : ∀ w ∈ GW, w.before _ s = true := fun w hw => hts0 w (List.mem_cons_of_mem _ hw)
  have hown : s.vm.findClass RJ3 = some m.cls := findClass_of_methodNamed B.named
  have hx := B.exec
  have hb := B.bytes
  have hr := B.returns
  have hlocks := B.notSynchronized
  obtain ⟨hT, hR, hZ, hZq⟩ := id hW
  have hS : va_S (AD ad) s.heap s.heap [] := va_S.rf
  have hl := lv_entry [.int x, .int n, f] (n := 3) (by rcases hf with rfl | ⟨t, rfl⟩ <;> exact Nat.le_of_ble_eq_true rfl)
  rw [lg_entry_eq]
  generalize (lg_sl [.int x, .int n, f] ++ List.replicate (3 - (lg_sl [.int x, .int n, f]).length) Slot.unset).toArray = ls at hl ⊢
  have hl : lv_has ls 3 [(0, .int x), (1, .int n)] := by rcases hf with rfl | ⟨t, rfl⟩ <;> exact lv_sub hl [0, 1] rfl
  refine lv_iload_n hx hb dd_pci_0 rfl (lv_at hl 0 rfl) ?_
  refine lv_if_lt (tgt := 9) hx hb dd_pci_1 (by decide) (fun g => absurd g h0) (fun _ => ?_)
  refine lv_iload_n hx hb dd_pci_4 rfl (lv_at hl 0 rfl) ?_
  refine lv_iload_n hx hb dd_pci_5 rfl (lv_at hl 1 rfl) ?_
  refine lv_icmp_lt (tgt := 16) hx hb dd_pci_6 (by decide) (fun _ => ?_) (fun g => absurd h1 g)
  refine lv_iload_n hx hb dd_pci_16 rfl (lv_at hl 0 rfl) ?_
  exact W.iret hx hb hr (fun t ht hW => ⟨rfl, ht⟩) (fun q hq => by cases hq) dd_pci_17 hlocks
set_option maxHeartbeats 4000000 in
set_option maxRecDepth 20000 in
theorem s_sci (l : Launch) (x n : Int32) (h0 : ¬ x < 0) (h1 : x < n) : Met l yJ0_checkIndex_df160 (Cond.code yJ0_checkIndex_df160 cJ0_checkIndex_df160 2 none :: GW) (rmS 1) (PcS ad adV [.int x, .int n]) (QcS (none)) 0 0 (fun _ => False) := by
  refine Met.ofW (cc := cJ0_checkIndex_df160) (maxL := 2) (ret := none) (by decide) rfl ?_
  intro p e s m args below meth c s₁ B hml hv
  obtain ⟨rfl, hW⟩ := hv
  have hts0 := atoms_spec (ws := Cond.code yJ0_checkIndex_df160 cJ0_checkIndex_df160 2 none :: GW) B.pre
  have hts : ∀ w ∈ GW, w.before _ s = true := fun w hw => hts0 w (List.mem_cons_of_mem _ hw)
  have hown : s.vm.findClass RJ0 = some m.cls := findClass_of_methodNamed B.named
  have hx := B.exec
  have hb := B.bytes
  have hr := B.returns
  have hlocks := B.notSynchronized
  obtain ⟨hT, hR, hZ, hZq⟩ := id hW
  have hS : va_S (AD ad) s.heap s.heap [] := va_S.rf
  have hl := lv_entry [.int x, .int n] (n := 2) (Nat.le_of_ble_eq_true rfl)
  rw [lg_entry_eq]
  generalize (lg_sl [.int x, .int n] ++ List.replicate (2 - (lg_sl [.int x, .int n]).length) Slot.unset).toArray = ls at hl ⊢
  have hl : lv_has ls 2 [(0, .int x), (1, .int n)] := hl
  rcases hZq with hZn | ⟨t, hZt⟩
  · refine lv_iload_n hx hb dd_sci_0 rfl (lv_at hl 0 rfl) ?_
    refine lv_iload_n hx hb dd_sci_1 rfl (lv_at hl 1 rfl) ?_
    refine va_gets hx hb hZn hS hown (hts _ kf_sio) (fun _ h => h) dd_sci_2 ?_
    refine so_pure (va_runS (Ts := GW) (As := [.int x, .int n, .null]) (rest := []) ⟨hx, hb, hml, hown, hts⟩ (s_pci (ad := ad) (adV := adV) l x n h0 h1 .null (Or.inl rfl)) ⟨callB_of (Ts := GW) (ws' := GW) 3 hts (gwc kc_pci) rfl rfl rfl (hts _ kn_J3) (hts _ kl_pci) ⟨by decide +kernel, by decide +kernel, by decide +kernel⟩ ⟨Nat.le_of_ble_eq_true rfl, Nat.le_of_ble_eq_true rfl⟩, hts _ ks_pci⟩ ⟨PcS_blind _, fun U hU hW2 => ⟨rfl, StrOK.go hW hS hU hW2⟩⟩ rfl rfl hl.1 rfl (lv_room (Nat.le_of_ble_eq_true rfl)) dd_sci_5 ⟨Nat.zero_le _, Nat.zero_le _⟩) ?_
    refine lv_pop hx hb dd_sci_8 rfl ?_
    exact W.vret hx hb hr (fun t ht hW => ⟨rfl, ht⟩) (fun q hq => by cases hq) dd_sci_9 hlocks
  · refine lv_iload_n hx hb dd_sci_0 rfl (lv_at hl 0 rfl) ?_
    refine lv_iload_n hx hb dd_sci_1 rfl (lv_at hl 1 rfl) ?_
    refine va_gets hx hb hZt hS hown (hts _ kf_sio) (fun _ h => h) dd_sci_2 ?_
    refine so_pure (va_runS (Ts := GW) (As := [.int x, .int n, .ref t]) (rest := []) ⟨hx, hb, hml, hown, hts⟩ (s_pci (ad := ad) (adV := adV) l x n h0 h1 (.ref t) (Or.inr ⟨t, rfl⟩)) ⟨callB_of (Ts := GW) (ws' := GW) 3 hts (gwc kc_pci) rfl rfl rfl (hts _ kn_J3) (hts _ kl_pci) ⟨by decide +kernel, by decide +kernel, by decide +kernel⟩ ⟨Nat.le_of_ble_eq_true rfl, Nat.le_of_ble_eq_true rfl⟩, hts _ ks_pci⟩ ⟨PcS_blind _, fun U hU hW2 => ⟨rfl, StrOK.go hW hS hU hW2⟩⟩ rfl rfl hl.1 rfl (lv_room (Nat.le_of_ble_eq_true rfl)) dd_sci_5 ⟨Nat.zero_le _, Nat.zero_le _⟩) ?_
    refine lv_pop hx hb dd_sci_8 rfl ?_
    exact W.vret hx hb hr (fun t ht hW => ⟨rfl, ht⟩) (fun q hq => by cases hq) dd_sci_9 hlocks
theorem chr_v : ∀ i, i < 5 → ∀ j, j < 6 → j < LEN.getD i 0 → ((((BYT.getD i []).getD j 0) &&& 255).toUInt32 % 65536).toInt32 = (BYT.getD i []).getD j 0 ∧ narrow .char (.int ((BYT.getD i []).getD j 0)) = .int ((BYT.getD i []).getD j 0) := by decide
theorem len_6 : ∀ i, i < 5 → LEN.getD i 0 ≤ 6 := by decide
set_option maxHeartbeats 4000000 in
set_option maxRecDepth 20000 in
theorem s_lch (l : Launch) (i : Nat) (hi : i < 5) (j : Nat) (hj : j < LEN.getD i 0) : Met l yJ1_charAt_3b067 (Cond.code yJ1_charAt_3b067 cJ1_charAt_3b067 2 (some .char) :: GW) (rmS 2) (PcS ad adV [.ref (adV i), .int (nI j)]) (QcS (some (.int ((BYT.getD i []).getD j 0)))) 0 0 (fun _ => False) := by
  refine Met.ofW (cc := cJ1_charAt_3b067) (maxL := 2) (ret := (some .char)) (by decide) rfl ?_
  intro p e s m args below meth c s₁ B hml hv
  obtain ⟨rfl, hW⟩ := hv
  have hts0 := atoms_spec (ws := Cond.code yJ1_charAt_3b067 cJ1_charAt_3b067 2 (some .char) :: GW) B.pre
  have hts : ∀ w ∈ GW, w.before _ s = true := fun w hw => hts0 w (List.mem_cons_of_mem _ hw)
  have hown : s.vm.findClass RJ1 = some m.cls := findClass_of_methodNamed B.named
  have hx := B.exec
  have hb := B.bytes
  have hr := B.returns
  have hlocks := B.notSynchronized
  obtain ⟨hT, hR, hZ, hZq⟩ := id hW
  have hS : va_S (AD ad) s.heap s.heap [] := va_S.rf
  have hl := lv_entry [.ref (adV i), .int (nI j)] (n := 2) (Nat.le_of_ble_eq_true rfl)
  rw [lg_entry_eq]
  generalize (lg_sl [.ref (adV i), .int (nI j)] ++ List.replicate (2 - (lg_sl [.ref (adV i), .int (nI j)]).length) Slot.unset).toArray = ls at hl ⊢
  have hl : lv_has ls 2 [(0, .ref (adV i)), (1, .int (nI j))] := hl
  have h6 := len_6 i hi
  have hc := chr_v i hi j (by omega) hj
  refine lv_iload_n hx hb dd_lch_0 rfl (lv_at hl 1 rfl) ?_
  refine lv_aload_n hx hb dd_lch_1 rfl (lv_at hl 0 rfl) ?_
  refine va_tlen hx hb (hT.1 i hi).2.2.2 hS rfl dd_lch_2 ?_
  refine so_pure (va_runS (Ts := GW) (As := [.int (nI j), .int (nI (LEN.getD i 0))]) (rest := []) ⟨hx, hb, hml, hown, hts⟩ (s_sci (ad := ad) (adV := adV) l (nI j) (nI (LEN.getD i 0)) (nI_pos (by omega)) (nI_lt hj (by omega))) ⟨callB_of (Ts := GW) (ws' := GW) 2 hts (gwc kc_sci) rfl rfl rfl (hts _ kn_J0) (hts _ kl_sci) ⟨by decide +kernel, by decide +kernel, by decide +kernel⟩ ⟨Nat.le_of_ble_eq_true rfl, Nat.le_of_ble_eq_true rfl⟩, hts _ ks_sci⟩ ⟨PcS_blind _, fun U hU hW2 => ⟨rfl, StrOK.go hW hS hU hW2⟩⟩ rfl rfl hl.1 rfl (lv_room (Nat.le_of_ble_eq_true rfl)) dd_lch_3 ⟨Nat.zero_le _, Nat.zero_le _⟩) ?_
  refine lv_aload_n hx hb dd_lch_6 rfl (lv_at hl 0 rfl) ?_
  refine lv_iload_n hx hb dd_lch_7 rfl (lv_at hl 1 rfl) ?_
  refine va_tb hx hb (hT.1 i hi).2.2.2 hS (vp_in_nI hj (by omega)) rfl dd_lch_8 ?_
  rw [nI_clamp (show j < 2 ^ 31 by omega)]
  refine lv_sipush (v := 255) hx hb dd_lch_9 (by decide) ?_
  refine lv_iand hx hb dd_lch_12 ?_
  refine lv_i2c hx hb dd_lch_13 hc.1 ?_
  exact W.zret hx hb hr hc.2 (fun t ht hW => ⟨rfl, ht⟩) (fun q hq => by cases hq) dd_lch_14 hlocks
set_option maxHeartbeats 4000000 in
set_option maxRecDepth 20000 in
theorem s_chr (l : Launch) (i : Nat) (hi : i < 5) (j : Nat) (hj : j < LEN.getD i 0) : Met l yJ0_charAt_5068e (Cond.code yJ0_charAt_5068e cJ0_charAt_5068e 2 (some .char) :: GW) (rmS 3) (PcS ad adV [.ref (ad (100 + i)), .int (nI j)]) (QcS (some (.int ((BYT.getD i []).getD j 0)))) 0 0 (fun _ => False) := by
  refine Met.ofW (cc := cJ0_charAt_5068e) (maxL := 2) (ret := (some .char)) (by decide) rfl ?_
  intro p e s m args below meth c s₁ B hml hv
  obtain ⟨rfl, hW⟩ := hv
  have hts0 := atoms_spec (ws := Cond.code yJ0_charAt_5068e cJ0_charAt_5068e 2 (some .char) :: GW) B.pre
  have hts : ∀ w ∈ GW, w.before _ s = true := fun w hw => hts0 w (List.mem_cons_of_mem _ hw)
  have hown : s.vm.findClass RJ0 = some m.cls := findClass_of_methodNamed B.named
  have hx := B.exec
  have hb := B.bytes
  have hr := B.returns
  have hlocks := B.notSynchronized
  obtain ⟨hT, hR, hZ, hZq⟩ := id hW
  have hS : va_S (AD ad) s.heap s.heap [] := va_S.rf
  have hl := lv_entry [.ref (ad (100 + i)), .int (nI j)] (n := 2) (Nat.le_of_ble_eq_true rfl)
  rw [lg_entry_eq]
  generalize (lg_sl [.ref (ad (100 + i)), .int (nI j)] ++ List.replicate (2 - (lg_sl [.ref (ad (100 + i)), .int (nI j)]).length) Slot.unset).toArray = ls at hl ⊢
  have hl : lv_has ls 2 [(0, .ref (ad (100 + i))), (1, .int (nI j))] := hl
  have h6 := len_6 i hi
  have hc := chr_v i hi j (by omega) hj
  refine lv_aload_n hx hb dd_chr_0 rfl (lv_at hl 0 rfl) ?_
  refine so_pure (va_runV (C := yJ0_isLatin1_aae02.cls) (Ts := GW) (As := []) (rest := []) ⟨hx, hb, hml, hown, hts⟩ (s_lat (ad := ad) (adV := adV) l i hi) ⟨callB_of (Ts := GW) (ws' := GW) 0 hts (gwc kc_lat) rfl rfl rfl (hts _ kn_J0) (hts _ kl_lat) ⟨by decide +kernel, by decide +kernel, by decide +kernel⟩ ⟨Nat.le_of_ble_eq_true rfl, Nat.le_of_ble_eq_true rfl⟩, hts _ ki_lat, hts _ ke_lat⟩ ⟨PcS_blind _, vk_recv hT hi hS, fun U hU hW2 => ⟨rfl, StrOK.go hW hS hU hW2⟩⟩ rfl rfl hl.1 rfl (lv_room (Nat.le_of_ble_eq_true rfl)) dd_chr_1 ⟨Nat.zero_le _, Nat.zero_le _⟩) ?_
  refine lv_if_eq (tgt := 16) hx hb dd_chr_4 (by decide) (fun g => absurd g (by decide)) (fun _ => ?_)
  refine lv_aload_n hx hb dd_chr_7 rfl (lv_at hl 0 rfl) ?_
  refine vk_getf hx hb (hT.1 i hi).2.2.1 hS hown (hts _ kf_value) (fun _ h => h) dd_chr_8 ?_
  refine lv_iload_n hx hb dd_chr_11 rfl (lv_at hl 1 rfl) ?_
  refine so_pure (va_runS (Ts := GW) (As := [.ref (adV i), .int (nI j)]) (rest := []) ⟨hx, hb, hml, hown, hts⟩ (s_lch (ad := ad) (adV := adV) l i hi j hj) ⟨callB_of (Ts := GW) (ws' := GW) 2 hts (gwc kc_lch) rfl rfl rfl (hts _ kn_J1) (hts _ kl_lch) ⟨by decide +kernel, by decide +kernel, by decide +kernel⟩ ⟨Nat.le_of_ble_eq_true rfl, Nat.le_of_ble_eq_true rfl⟩, hts _ ks_lch⟩ ⟨PcS_blind _, fun U hU hW2 => ⟨rfl, StrOK.go hW hS hU hW2⟩⟩ rfl rfl hl.1 rfl (lv_room (Nat.le_of_ble_eq_true rfl)) dd_chr_12 ⟨Nat.zero_le _, Nat.zero_le _⟩) ?_
  exact W.zret hx hb hr hc.2 (fun t ht hW => ⟨rfl, ht⟩) (fun q hq => by cases hq) dd_chr_15 hlocks
end SOSTR
