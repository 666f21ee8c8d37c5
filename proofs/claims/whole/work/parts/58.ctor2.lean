/-! constructors: packs, differences, ways -/
theorem dc_rs_0 : decode cX2_reset 0 = .ok (.aload_n 0, 1) := by decide +kernel
theorem dc_rs_1 : decode cX2_reset 1 = .ok (.iconst 0, 1) := by decide +kernel
theorem kc_rs_f27 : Cond.fieldLink RX2 27 (TX2 4).1 (TX2 4).2.1 (TX2 4).2.2.1 ∈ GW := gw_at 179 (by decide +kernel) (by decide +kernel)
theorem dc_rs_2 : decode cX2_reset 2 = .ok (.putfield 27, 3) := by decide +kernel
theorem dc_rs_5 : decode cX2_reset 5 = .ok (.aload_n 0, 1) := by decide +kernel
theorem dc_rs_6 : decode cX2_reset 6 = .ok (.iconst 2, 1) := by decide +kernel
theorem kc_rs_f31 : Cond.fieldLink RX2 31 (TX2 5).1 (TX2 5).2.1 (TX2 5).2.2.1 ∈ GW := gw_at 184 (by decide +kernel) (by decide +kernel)
theorem dc_rs_7 : decode cX2_reset 7 = .ok (.putfield 31, 3) := by decide +kernel
theorem dc_rs_10 : decode cX2_reset 10 = .ok (.aload_n 0, 1) := by decide +kernel
theorem dc_rs_11 : decode cX2_reset 11 = .ok (.iconst 0, 1) := by decide +kernel
theorem kc_rs_f34 : Cond.fieldLink RX2 34 (TX2 6).1 (TX2 6).2.1 (TX2 6).2.2.1 ∈ GW := gw_at 190 (by decide +kernel) (by decide +kernel)
theorem dc_rs_12 : decode cX2_reset 12 = .ok (.putfield 34, 3) := by decide +kernel
theorem dc_rs_15 : decode cX2_reset 15 = .ok (.aload_n 0, 1) := by decide +kernel
theorem dc_rs_16 : decode cX2_reset 16 = .ok (.bipush 10, 2) := by decide +kernel
theorem kc_rs_f37 : Cond.fieldLink RX2 37 (TX2 7).1 (TX2 7).2.1 (TX2 7).2.2.1 ∈ GW := gw_at 193 (by decide +kernel) (by decide +kernel)
theorem dc_rs_18 : decode cX2_reset 18 = .ok (.putfield 37, 3) := by decide +kernel
theorem dc_rs_21 : decode cX2_reset 21 = .ok (.aload_n 0, 1) := by decide +kernel
theorem dc_rs_22 : decode cX2_reset 22 = .ok (.iconst 5, 1) := by decide +kernel
theorem kc_rs_f40 : Cond.fieldLink RX2 40 (TX2 8).1 (TX2 8).2.1 (TX2 8).2.2.1 ∈ GW := gw_at 196 (by decide +kernel) (by decide +kernel)
theorem dc_rs_23 : decode cX2_reset 23 = .ok (.putfield 40, 3) := by decide +kernel
theorem dc_rs_26 : decode cX2_reset 26 = .ok (.return_, 1) := by decide +kernel
theorem dc_pk_0 : decode cX2_init 0 = .ok (.aload_n 0, 1) := by decide +kernel
theorem kc_pk_ol : Cond.methodLink RX2 3 objectInit ∈ GW := gw_at 162 (by decide +kernel) (by decide +kernel)
theorem kc_pk_oi : Cond.instanceMethod objectInit ∈ GW := gw_at 138 (by decide +kernel) (by decide +kernel)
set_option maxRecDepth 20000 in
theorem kc_pk_oc : Cond.code objectInit ⟨#[0xb1]⟩ 1 none ∈ GW := gw_at 139 rfl rfl
theorem dc_pk_1 : decode cX2_init 1 = .ok (.invokespecial 3, 3) := by decide +kernel
theorem dc_pk_4 : decode cX2_init 4 = .ok (.aload_n 0, 1) := by decide +kernel
theorem dc_pk_5 : decode cX2_init 5 = .ok (.bipush 16, 2) := by decide +kernel
theorem kc_pk_aint : Cond.arrayClass .int ∈ GW := gw_at 218 (by decide +kernel) (by decide +kernel)
theorem dc_pk_7 : decode cX2_init 7 = .ok (.newarray .int, 2) := by decide +kernel
theorem kc_pk_f9 : Cond.fieldLink RX2 9 (TX2 0).1 (TX2 0).2.1 (TX2 0).2.2.1 ∈ GW := gw_at 167 (by decide +kernel) (by decide +kernel)
theorem dc_pk_9 : decode cX2_init 9 = .ok (.putfield 9, 3) := by decide +kernel
theorem dc_pk_12 : decode cX2_init 12 = .ok (.aload_n 0, 1) := by decide +kernel
theorem dc_pk_13 : decode cX2_init 13 = .ok (.bipush 16, 2) := by decide +kernel
theorem dc_pk_15 : decode cX2_init 15 = .ok (.newarray .int, 2) := by decide +kernel
theorem kc_pk_f15 : Cond.fieldLink RX2 15 (TX2 1).1 (TX2 1).2.1 (TX2 1).2.2.1 ∈ GW := gw_at 172 (by decide +kernel) (by decide +kernel)
theorem dc_pk_17 : decode cX2_init 17 = .ok (.putfield 15, 3) := by decide +kernel
theorem dc_pk_20 : decode cX2_init 20 = .ok (.aload_n 0, 1) := by decide +kernel
theorem dc_pk_21 : decode cX2_init 21 = .ok (.bipush 16, 2) := by decide +kernel
theorem dc_pk_23 : decode cX2_init 23 = .ok (.newarray .int, 2) := by decide +kernel
theorem kc_pk_f18 : Cond.fieldLink RX2 18 (TX2 2).1 (TX2 2).2.1 (TX2 2).2.2.1 ∈ GW := gw_at 174 (by decide +kernel) (by decide +kernel)
theorem dc_pk_25 : decode cX2_init 25 = .ok (.putfield 18, 3) := by decide +kernel
theorem dc_pk_28 : decode cX2_init 28 = .ok (.aload_n 0, 1) := by decide +kernel
theorem dc_pk_29 : decode cX2_init 29 = .ok (.iconst 5, 1) := by decide +kernel
theorem dc_pk_30 : decode cX2_init 30 = .ok (.newarray .int, 2) := by decide +kernel
theorem kc_pk_f21 : Cond.fieldLink RX2 21 (TX2 3).1 (TX2 3).2.1 (TX2 3).2.2.1 ∈ GW := gw_at 177 (by decide +kernel) (by decide +kernel)
theorem dc_pk_32 : decode cX2_init 32 = .ok (.putfield 21, 3) := by decide +kernel
theorem dc_pk_35 : decode cX2_init 35 = .ok (.aload_n 0, 1) := by decide +kernel
set_option maxRecDepth 20000 in
theorem kc_pk_kcr : Cond.code yX2_reset cX2_reset 1 none ∈ GW := gw_at 166 rfl rfl
theorem kc_pk_iiX2 : Cond.initialized RX2 ∈ GW := gw_at 117 (by decide +kernel) (by decide +kernel)
theorem kc_pk_imr : Cond.instanceMethod yX2_reset ∈ GW := gw_at 165 (by decide +kernel) (by decide +kernel)
theorem kc_pk_ser : Cond.selects RX2 yX2_reset yX2_reset ∈ GW := gw_at 0 (by decide +kernel) (by decide +kernel)
theorem kc_pk_mlr : Cond.methodLink RX2 24 yX2_reset ∈ GW := gw_at 163 (by decide +kernel) (by decide +kernel)
theorem dc_pk_36 : decode cX2_init 36 = .ok (.invokevirtual 24, 3) := by decide +kernel
theorem dc_pk_39 : decode cX2_init 39 = .ok (.return_, 1) := by decide +kernel
abbrev rowsW (cT : Nat → ClassId) (L : List Nat) : va_W := L.map (fun a => (a, zA (cT 0) 5))
abbrev oE (cT : Nat → ClassId) (r : Nat → Nat) : va_E := .inl (cT 5, 16, .inr (.inr (.inr (.inr (fun i => if i < 16 then some (r i) else none)))))
abbrev wDf (cT : Nat → ClassId) (h o1 o2 : Nat) (r1 r2 : Nat → Nat) (g lg : Nat) : va_W := ([(h, .inr (1, [.ref o1, .ref o2, .ref g, .ref lg, .int 0, .int 0, .int 2])), (o1, oE cT r1), (o2, oE cT r2)] ++ rowsW cT ((List.range 16).map r1 ++ (List.range 16).map r2)) ++ [(g, zA (cT 2) 16), (lg, zA (cT 0) 16)]
theorem vr_c {e : va_E} (l : List Nat) : vr_up (fun _ => e) l e = fun _ => e := by
  funext a
  unfold vr_up
  split <;> rfl
theorem dc_df_0 : decode cX1_init 0 = .ok (.aload_n 0, 1) := by decide +kernel
theorem kc_df_ol : Cond.methodLink RX1 3 objectInit ∈ GW := gw_at 267 (by decide +kernel) (by decide +kernel)
theorem kc_df_oi : Cond.instanceMethod objectInit ∈ GW := gw_at 138 (by decide +kernel) (by decide +kernel)
set_option maxRecDepth 20000 in
theorem kc_df_oc : Cond.code objectInit ⟨#[0xb1]⟩ 1 none ∈ GW := gw_at 139 rfl rfl
theorem dc_df_1 : decode cX1_init 1 = .ok (.invokespecial 3, 3) := by decide +kernel
theorem kc_df_cl9 : Cond.classLink RX1 9 "[[I" ∈ GW := gw_at 268 (by decide +kernel) (by decide +kernel)
theorem kc_df_aint : Cond.arrayClass .int ∈ GW := gw_at 218 (by decide +kernel) (by decide +kernel)
theorem dc_df_4 : decode cX1_init 4 = .ok (.aload_n 0, 1) := by decide +kernel
theorem dc_df_5 : decode cX1_init 5 = .ok (.bipush 16, 2) := by decide +kernel
theorem dc_df_7 : decode cX1_init 7 = .ok (.iconst 5, 1) := by decide +kernel
theorem dc_df_8 : decode cX1_init 8 = .ok (.multianewarray 9 2, 4) := by decide +kernel
theorem kc_df_f11 : Cond.fieldLink RX1 11 (TX1 0).1 (TX1 0).2.1 (TX1 0).2.2.1 ∈ GW := gw_at 270 (by decide +kernel) (by decide +kernel)
theorem dc_df_12 : decode cX1_init 12 = .ok (.putfield 11, 3) := by decide +kernel
theorem dc_df_15 : decode cX1_init 15 = .ok (.aload_n 0, 1) := by decide +kernel
theorem dc_df_16 : decode cX1_init 16 = .ok (.bipush 16, 2) := by decide +kernel
theorem dc_df_18 : decode cX1_init 18 = .ok (.iconst 5, 1) := by decide +kernel
theorem dc_df_19 : decode cX1_init 19 = .ok (.multianewarray 9 2, 4) := by decide +kernel
theorem kc_df_f16 : Cond.fieldLink RX1 16 (TX1 1).1 (TX1 1).2.1 (TX1 1).2.2.1 ∈ GW := gw_at 271 (by decide +kernel) (by decide +kernel)
theorem dc_df_23 : decode cX1_init 23 = .ok (.putfield 16, 3) := by decide +kernel
theorem dc_df_26 : decode cX1_init 26 = .ok (.aload_n 0, 1) := by decide +kernel
theorem dc_df_27 : decode cX1_init 27 = .ok (.bipush 16, 2) := by decide +kernel
theorem kc_df_aboolean : Cond.arrayClass .boolean ∈ GW := gw_at 294 (by decide +kernel) (by decide +kernel)
theorem dc_df_29 : decode cX1_init 29 = .ok (.newarray .boolean, 2) := by decide +kernel
theorem kc_df_f19 : Cond.fieldLink RX1 19 (TX1 2).1 (TX1 2).2.1 (TX1 2).2.2.1 ∈ GW := gw_at 272 (by decide +kernel) (by decide +kernel)
theorem dc_df_31 : decode cX1_init 31 = .ok (.putfield 19, 3) := by decide +kernel
theorem dc_df_34 : decode cX1_init 34 = .ok (.aload_n 0, 1) := by decide +kernel
theorem dc_df_35 : decode cX1_init 35 = .ok (.bipush 16, 2) := by decide +kernel
theorem dc_df_37 : decode cX1_init 37 = .ok (.newarray .int, 2) := by decide +kernel
theorem kc_df_f23 : Cond.fieldLink RX1 23 (TX1 3).1 (TX1 3).2.1 (TX1 3).2.2.1 ∈ GW := gw_at 273 (by decide +kernel) (by decide +kernel)
theorem dc_df_39 : decode cX1_init 39 = .ok (.putfield 23, 3) := by decide +kernel
theorem dc_df_42 : decode cX1_init 42 = .ok (.aload_n 0, 1) := by decide +kernel
theorem dc_df_43 : decode cX1_init 43 = .ok (.iconst 0, 1) := by decide +kernel
theorem kc_df_f27 : Cond.fieldLink RX1 27 (TX1 4).1 (TX1 4).2.1 (TX1 4).2.2.1 ∈ GW := gw_at 275 (by decide +kernel) (by decide +kernel)
theorem dc_df_44 : decode cX1_init 44 = .ok (.putfield 27, 3) := by decide +kernel
theorem dc_df_47 : decode cX1_init 47 = .ok (.aload_n 0, 1) := by decide +kernel
theorem dc_df_48 : decode cX1_init 48 = .ok (.iconst 0, 1) := by decide +kernel
theorem kc_df_f31 : Cond.fieldLink RX1 31 (TX1 5).1 (TX1 5).2.1 (TX1 5).2.2.1 ∈ GW := gw_at 277 (by decide +kernel) (by decide +kernel)
theorem dc_df_49 : decode cX1_init 49 = .ok (.putfield 31, 3) := by decide +kernel
theorem dc_df_52 : decode cX1_init 52 = .ok (.aload_n 0, 1) := by decide +kernel
theorem dc_df_53 : decode cX1_init 53 = .ok (.iconst 2, 1) := by decide +kernel
theorem kc_df_f34 : Cond.fieldLink RX1 34 (TX1 6).1 (TX1 6).2.1 (TX1 6).2.2.1 ∈ GW := gw_at 278 (by decide +kernel) (by decide +kernel)
theorem dc_df_54 : decode cX1_init 54 = .ok (.putfield 34, 3) := by decide +kernel
theorem dc_df_57 : decode cX1_init 57 = .ok (.return_, 1) := by decide +kernel
abbrev wWy (cT : Nat → ClassId) (h a b c d o1 o2 : Nat) (r1 r2 : Nat → Nat) (g lg e e1 e2 e3 : Nat) : va_W := ([(h, .inr (6, [.ref a, .ref b, .ref c, .ref d, .ref e])), (a, zA (cT 0) 16), (b, zA (cT 0) 5), (c, zA (cT 0) 16)] ++ wDf cT d o1 o2 r1 r2 g lg) ++ wBs cT e e1 e2 e3
theorem dc_wy_0 : decode cX6_init 0 = .ok (.aload_n 0, 1) := by decide +kernel
theorem kc_wy_ol : Cond.methodLink RX6 3 objectInit ∈ GW := gw_at 261 (by decide +kernel) (by decide +kernel)
theorem kc_wy_oi : Cond.instanceMethod objectInit ∈ GW := gw_at 138 (by decide +kernel) (by decide +kernel)
set_option maxRecDepth 20000 in
theorem kc_wy_oc : Cond.code objectInit ⟨#[0xb1]⟩ 1 none ∈ GW := gw_at 139 rfl rfl
theorem dc_wy_1 : decode cX6_init 1 = .ok (.invokespecial 3, 3) := by decide +kernel
theorem dc_wy_4 : decode cX6_init 4 = .ok (.aload_n 0, 1) := by decide +kernel
theorem dc_wy_5 : decode cX6_init 5 = .ok (.bipush 16, 2) := by decide +kernel
theorem kc_wy_aint : Cond.arrayClass .int ∈ GW := gw_at 218 (by decide +kernel) (by decide +kernel)
theorem dc_wy_7 : decode cX6_init 7 = .ok (.newarray .int, 2) := by decide +kernel
theorem kc_wy_f9 : Cond.fieldLink RX6 9 (TX6 0).1 (TX6 0).2.1 (TX6 0).2.2.1 ∈ GW := gw_at 317 (by decide +kernel) (by decide +kernel)
theorem dc_wy_9 : decode cX6_init 9 = .ok (.putfield 9, 3) := by decide +kernel
theorem dc_wy_12 : decode cX6_init 12 = .ok (.aload_n 0, 1) := by decide +kernel
theorem dc_wy_13 : decode cX6_init 13 = .ok (.iconst 5, 1) := by decide +kernel
theorem dc_wy_14 : decode cX6_init 14 = .ok (.newarray .int, 2) := by decide +kernel
theorem kc_wy_f15 : Cond.fieldLink RX6 15 (TX6 1).1 (TX6 1).2.1 (TX6 1).2.2.1 ∈ GW := gw_at 319 (by decide +kernel) (by decide +kernel)
theorem dc_wy_16 : decode cX6_init 16 = .ok (.putfield 15, 3) := by decide +kernel
theorem dc_wy_19 : decode cX6_init 19 = .ok (.aload_n 0, 1) := by decide +kernel
theorem dc_wy_20 : decode cX6_init 20 = .ok (.bipush 16, 2) := by decide +kernel
theorem dc_wy_22 : decode cX6_init 22 = .ok (.newarray .int, 2) := by decide +kernel
theorem kc_wy_f18 : Cond.fieldLink RX6 18 (TX6 2).1 (TX6 2).2.1 (TX6 2).2.2.1 ∈ GW := gw_at 320 (by decide +kernel) (by decide +kernel)
theorem dc_wy_24 : decode cX6_init 24 = .ok (.putfield 18, 3) := by decide +kernel
theorem dc_wy_27 : decode cX6_init 27 = .ok (.aload_n 0, 1) := by decide +kernel
theorem kc_wy_cl21 : Cond.classLink RX6 21 RX1 ∈ GW := gw_at 262 (by decide +kernel) (by decide +kernel)
theorem kc_wy_itX1 : Cond.instantiable RX1 7 ∈ GW := gw_at 263 (by decide +kernel) (by decide +kernel)
theorem kc_wy_iiX1 : Cond.initialized RX1 ∈ GW := gw_at 120 (by decide +kernel) (by decide +kernel)
theorem dc_wy_28 : decode cX6_init 28 = .ok (.new 21, 3) := by decide +kernel
theorem dc_wy_31 : decode cX6_init 31 = .ok (.dup, 1) := by decide +kernel
set_option maxRecDepth 20000 in
theorem kc_wy_kcX1 : Cond.code yX1_init cX1_init 1 none ∈ GW := gw_at 266 rfl rfl
theorem kc_wy_imX1 : Cond.instanceMethod yX1_init ∈ GW := gw_at 265 (by decide +kernel) (by decide +kernel)
theorem kc_wy_ml23 : Cond.methodLinkNest RX6 23 yX1_init "CellPacks" ∈ NWs := nw_at 264 (by decide +kernel) rfl
theorem dc_wy_32 : decode cX6_init 32 = .ok (.invokespecial 23, 3) := by decide +kernel
theorem kc_wy_f24 : Cond.fieldLink RX6 24 (TX6 3).1 (TX6 3).2.1 (TX6 3).2.2.1 ∈ GW := gw_at 321 (by decide +kernel) (by decide +kernel)
theorem dc_wy_35 : decode cX6_init 35 = .ok (.putfield 24, 3) := by decide +kernel
theorem dc_wy_38 : decode cX6_init 38 = .ok (.aload_n 0, 1) := by decide +kernel
theorem kc_wy_cl28 : Cond.classLink RX6 28 RX0 ∈ GW := gw_at 295 (by decide +kernel) (by decide +kernel)
theorem kc_wy_itX0 : Cond.instantiable RX0 5 ∈ GW := gw_at 296 (by decide +kernel) (by decide +kernel)
theorem kc_wy_iiX0 : Cond.initialized RX0 ∈ GW := gw_at 121 (by decide +kernel) (by decide +kernel)
theorem dc_wy_39 : decode cX6_init 39 = .ok (.new 28, 3) := by decide +kernel
theorem dc_wy_42 : decode cX6_init 42 = .ok (.dup, 1) := by decide +kernel
set_option maxRecDepth 20000 in
theorem kc_wy_kcX0 : Cond.code yX0_init cX0_init 1 none ∈ GW := gw_at 299 rfl rfl
theorem kc_wy_imX0 : Cond.instanceMethod yX0_init ∈ GW := gw_at 298 (by decide +kernel) (by decide +kernel)
theorem kc_wy_ml30 : Cond.methodLinkNest RX6 30 yX0_init "CellPacks" ∈ NWs := nw_at 297 (by decide +kernel) rfl
theorem dc_wy_43 : decode cX6_init 43 = .ok (.invokespecial 30, 3) := by decide +kernel
theorem kc_wy_f31 : Cond.fieldLink RX6 31 (TX6 4).1 (TX6 4).2.1 (TX6 4).2.2.1 ∈ GW := gw_at 323 (by decide +kernel) (by decide +kernel)
theorem dc_wy_46 : decode cX6_init 46 = .ok (.putfield 31, 3) := by decide +kernel
theorem dc_wy_49 : decode cX6_init 49 = .ok (.return_, 1) := by decide +kernel
section CTORS
variable {cT dC : Nat → ClassId} {dI : Nat → Nat → Nat}
set_option maxHeartbeats 4000000 in
set_option maxRecDepth 20000 in
theorem n_reset (l : Launch) (a b c1 d : Nat) (h0 sz : Nat) : Met l yX2_reset (Cond.code yX2_reset cX2_reset 1 none :: GW) (rmN 0 0 0) (PcN cT dC dI [.ref h0] [(h0, .inr (2, [.ref a, .ref b, .ref c1, .ref d, .int 0, .int 0, .int 0, .int 0, .int 0]))] sz) (QcN dC dI (fun w => w = [(h0, .inr (2, [.ref a, .ref b, .ref c1, .ref d, .int 0, .int 2, .int 0, .int 10, .int 5]))]) [(h0, .inr (2, [.ref a, .ref b, .ref c1, .ref d, .int 0, .int 0, .int 0, .int 0, .int 0]))] sz) 0 0 (va_A [(h0, .inr (2, [.ref a, .ref b, .ref c1, .ref d, .int 0, .int 0, .int 0, .int 0, .int 0]))] sz) := by
  refine Met.ofW (cc := cX2_reset) (maxL := 1) (ret := none) (by decide) rfl ?_
  intro p e s m args below meth c s₁ B hml hv
  obtain ⟨rfl, hWK, hsz, hP, hD0⟩ := hv
  have hx := B.exec
  have hb := B.bytes
  have hr := B.returns
  have hts0 := atoms_spec (ws := Cond.code yX2_reset cX2_reset 1 none :: GW) B.pre
  have hts : ∀ w ∈ GW, w.before _ s = true := fun w hw => hts0 w (List.mem_cons_of_mem _ hw)
  have hown : s.vm.findClass RX2 = some m.cls := findClass_of_methodNamed B.named
  have hlocks := B.notSynchronized
  have hK := hWK.1
  subst hsz
  have hD := hD0.self (sz := s.heap.size)
  have hA : ∀ q : Nat, s.heap.size ≤ q → va_A [(h0, .inr (2, [.ref a, .ref b, .ref c1, .ref d, .int 0, .int 0, .int 0, .int 0, .int 0]))] s.heap.size q := fun q h => Or.inr h
  have hS : va_S (va_A [(h0, .inr (2, [.ref a, .ref b, .ref c1, .ref d, .int 0, .int 0, .int 0, .int 0, .int 0]))] s.heap.size) s.heap s.heap [] := va_S.rf
  have hl := lv_entry [.ref h0] (n := 1) (Nat.le_of_ble_eq_true rfl)
  rw [lg_entry_eq]
  generalize (lg_sl [.ref h0] ++ List.replicate (1 - (lg_sl [.ref h0]).length) Slot.unset).toArray = ls at hl ⊢
  have hl : lv_has ls 1 [(0, .ref h0)] := hl
  refine lv_aload_n hx hb dc_rs_0 rfl (lv_at hl 0 rfl) ?_
  refine lv_iconst (v := 0) hx hb dc_rs_1 (by decide) ?_
  refine va_put hx hb hts (cl_ok 2 _ rfl).1 tyX2 tyX2_ok nmX2 hown hK hP hD hS 0 rfl rfl 4 (by decide) (hts _ kc_rs_f27) (fun _ h => h) rfl rfl rfl rfl (Nat.le_of_ble_eq_true rfl) dc_rs_2 (fun H locs hP hD hS => ?_)
  refine lv_aload_n hx hb dc_rs_5 rfl (lv_at hl 0 rfl) ?_
  refine lv_iconst (v := 2) hx hb dc_rs_6 (by decide) ?_
  refine va_put hx hb hts (cl_ok 2 _ rfl).1 tyX2 tyX2_ok nmX2 hown hK hP hD hS 0 rfl rfl 5 (by decide) (hts _ kc_rs_f31) (fun _ h => h) rfl rfl rfl rfl (Nat.le_of_ble_eq_true rfl) dc_rs_7 (fun H locs hP hD hS => ?_)
  refine lv_aload_n hx hb dc_rs_10 rfl (lv_at hl 0 rfl) ?_
  refine lv_iconst (v := 0) hx hb dc_rs_11 (by decide) ?_
  refine va_put hx hb hts (cl_ok 2 _ rfl).1 tyX2 tyX2_ok nmX2 hown hK hP hD hS 0 rfl rfl 6 (by decide) (hts _ kc_rs_f34) (fun _ h => h) rfl rfl rfl rfl (Nat.le_of_ble_eq_true rfl) dc_rs_12 (fun H locs hP hD hS => ?_)
  refine lv_aload_n hx hb dc_rs_15 rfl (lv_at hl 0 rfl) ?_
  refine lv_bipush (v := 10) hx hb dc_rs_16 (by decide) ?_
  refine va_put hx hb hts (cl_ok 2 _ rfl).1 tyX2 tyX2_ok nmX2 hown hK hP hD hS 0 rfl rfl 7 (by decide) (hts _ kc_rs_f37) (fun _ h => h) rfl rfl rfl rfl (Nat.le_of_ble_eq_true rfl) dc_rs_18 (fun H locs hP hD hS => ?_)
  refine lv_aload_n hx hb dc_rs_21 rfl (lv_at hl 0 rfl) ?_
  refine lv_iconst (v := 5) hx hb dc_rs_22 (by decide) ?_
  refine va_put hx hb hts (cl_ok 2 _ rfl).1 tyX2 tyX2_ok nmX2 hown hK hP hD hS 0 rfl rfl 8 (by decide) (hts _ kc_rs_f40) (fun _ h => h) rfl rfl rfl rfl (Nat.le_of_ble_eq_true rfl) dc_rs_23 (fun H locs hP hD hS => ?_)
  refine W.widen (k := 0) (n := 0) (Nat.le_of_ble_eq_true rfl) (Nat.le_of_ble_eq_true rfl) ?_
  exact W.vret hx hb hr (fun t ht _ => ⟨⟨rfl, _, rfl, by rw [ht]; exact hP, hD⟩, hS.F ht⟩) hS.2.2 dc_rs_26 hlocks
set_option maxHeartbeats 4000000 in
set_option maxRecDepth 20000 in
theorem n_pack (l : Launch) (h0 sz : Nat) : Met l yX2_init (Cond.code yX2_init cX2_init 1 none :: GW) (rmN 1 4 53) (PcN cT dC dI [.ref h0] [(h0, .inr (2, [.null, .null, .null, .null, .int 0, .int 0, .int 0, .int 0, .int 0]))] sz) (QcN dC dI (fun w => ∃ a b c d, w = wPk cT h0 a b c d) [(h0, .inr (2, [.null, .null, .null, .null, .int 0, .int 0, .int 0, .int 0, .int 0]))] sz) 4 53 (va_A [(h0, .inr (2, [.null, .null, .null, .null, .int 0, .int 0, .int 0, .int 0, .int 0]))] sz) := by
  refine Met.ofW (cc := cX2_init) (maxL := 1) (ret := none) (by decide) rfl ?_
  intro p e s m args below meth c s₁ B hml hv
  obtain ⟨rfl, hWK, hsz, hP, hD0⟩ := hv
  have hx := B.exec
  have hb := B.bytes
  have hr := B.returns
  have hts0 := atoms_spec (ws := Cond.code yX2_init cX2_init 1 none :: GW) B.pre
  have hts : ∀ w ∈ GW, w.before _ s = true := fun w hw => hts0 w (List.mem_cons_of_mem _ hw)
  have hown : s.vm.findClass RX2 = some m.cls := findClass_of_methodNamed B.named
  have hlocks := B.notSynchronized
  have hin : meth.name = "<init>" := (name_of_methodNamed B.named B.method).1
  have hK := hWK.1
  subst hsz
  have hD := hD0.self (sz := s.heap.size)
  have hA : ∀ q : Nat, s.heap.size ≤ q → va_A [(h0, .inr (2, [.null, .null, .null, .null, .int 0, .int 0, .int 0, .int 0, .int 0]))] s.heap.size q := fun q h => Or.inr h
  have hS : va_S (va_A [(h0, .inr (2, [.null, .null, .null, .null, .int 0, .int 0, .int 0, .int 0, .int 0]))] s.heap.size) s.heap s.heap [] := va_S.rf
  have hl := lv_entry [.ref h0] (n := 1) (Nat.le_of_ble_eq_true rfl)
  rw [lg_entry_eq]
  generalize (lg_sl [.ref h0] ++ List.replicate (1 - (lg_sl [.ref h0]).length) Slot.unset).toArray = ls at hl ⊢
  have hl : lv_has ls 1 [(0, .ref h0)] := hl
  refine lv_aload_n hx hb dc_pk_0 rfl (lv_at hl 0 rfl) ?_
  refine W.objInit hx hb hown (hts _ kc_pk_ol) (hts _ kc_pk_oi) (hts _ kc_pk_oc) rfl (by rw [hml]; exact hl.1) rfl dc_pk_1 (Nat.le_of_ble_eq_true rfl) (Nat.le_of_ble_eq_true rfl) ?_
  refine W.eq (g2 := F0 m 4 ls []) rfl ?_
  refine lv_aload_n hx hb dc_pk_4 rfl (lv_at hl 0 rfl) ?_
  refine lv_bipush (v := 16) hx hb dc_pk_5 (by decide) ?_
  refine nw_arr (atype := .int) (t := 0) hx hb (hts _ kc_pk_aint) rfl hK hP hD hS hA rfl (N' := 16) (by decide) (by decide) (fun _ => rfl) (Nat.le_of_ble_eq_true rfl) (Nat.le_of_ble_eq_true rfl) (Nat.le_of_ble_eq_true rfl) dc_pk_7 (fun q1 H hP hD hS => ?_)
  refine va_putF hx hb hts (cl_ok 2 _ rfl).1 tyX2 tyX2_ok nmX2 hown hK hP hD hS 0 rfl rfl 0 (by decide) (hts _ kc_pk_f9) (fun _ h => h) rfl hin rfl rfl rfl rfl (Nat.le_of_ble_eq_true rfl) dc_pk_9 (fun H locs hP hD hS => ?_)
  refine lv_aload_n hx hb dc_pk_12 rfl (lv_at hl 0 rfl) ?_
  refine lv_bipush (v := 16) hx hb dc_pk_13 (by decide) ?_
  refine nw_arr (atype := .int) (t := 0) hx hb (hts _ kc_pk_aint) rfl hK hP hD hS hA rfl (N' := 16) (by decide) (by decide) (fun _ => rfl) (Nat.le_of_ble_eq_true rfl) (Nat.le_of_ble_eq_true rfl) (Nat.le_of_ble_eq_true rfl) dc_pk_15 (fun q2 H hP hD hS => ?_)
  refine va_putF hx hb hts (cl_ok 2 _ rfl).1 tyX2 tyX2_ok nmX2 hown hK hP hD hS 0 rfl rfl 1 (by decide) (hts _ kc_pk_f15) (fun _ h => h) rfl hin rfl rfl rfl rfl (Nat.le_of_ble_eq_true rfl) dc_pk_17 (fun H locs hP hD hS => ?_)
  refine lv_aload_n hx hb dc_pk_20 rfl (lv_at hl 0 rfl) ?_
  refine lv_bipush (v := 16) hx hb dc_pk_21 (by decide) ?_
  refine nw_arr (atype := .int) (t := 0) hx hb (hts _ kc_pk_aint) rfl hK hP hD hS hA rfl (N' := 16) (by decide) (by decide) (fun _ => rfl) (Nat.le_of_ble_eq_true rfl) (Nat.le_of_ble_eq_true rfl) (Nat.le_of_ble_eq_true rfl) dc_pk_23 (fun q3 H hP hD hS => ?_)
  refine va_putF hx hb hts (cl_ok 2 _ rfl).1 tyX2 tyX2_ok nmX2 hown hK hP hD hS 0 rfl rfl 2 (by decide) (hts _ kc_pk_f18) (fun _ h => h) rfl hin rfl rfl rfl rfl (Nat.le_of_ble_eq_true rfl) dc_pk_25 (fun H locs hP hD hS => ?_)
  refine lv_aload_n hx hb dc_pk_28 rfl (lv_at hl 0 rfl) ?_
  refine lv_iconst (v := 5) hx hb dc_pk_29 (by decide) ?_
  refine nw_arr (atype := .int) (t := 0) hx hb (hts _ kc_pk_aint) rfl hK hP hD hS hA rfl (N' := 5) (by decide) (by decide) (fun _ => rfl) (Nat.le_of_ble_eq_true rfl) (Nat.le_of_ble_eq_true rfl) (Nat.le_of_ble_eq_true rfl) dc_pk_30 (fun q4 H hP hD hS => ?_)
  refine va_putF hx hb hts (cl_ok 2 _ rfl).1 tyX2 tyX2_ok nmX2 hown hK hP hD hS 0 rfl rfl 3 (by decide) (hts _ kc_pk_f21) (fun _ h => h) rfl hin rfl rfl rfl rfl (Nat.le_of_ble_eq_true rfl) dc_pk_32 (fun H locs hP hD hS => ?_)
  refine lv_aload_n hx hb dc_pk_35 rfl (lv_at hl 0 rfl) ?_
  have hP : va_P (dC, dI) vwCl ([(q1, zA (cT 0) 16), (q2, zA (cT 0) 16), (q3, zA (cT 0) 16), (q4, zA (cT 0) 5)] ++ [(h0, .inr (2, [.ref q1, .ref q2, .ref q3, .ref q4, .int 0, .int 0, .int 0, .int 0, .int 0]))]) H := hP.sub [1, 2, 3, 4, 0] rfl
  have hD := hD.sub (ws' := [(q1, zA (cT 0) 16), (q2, zA (cT 0) 16), (q3, zA (cT 0) 16), (q4, zA (cT 0) 5)] ++ [(h0, .inr (2, [.ref q1, .ref q2, .ref q3, .ref q4, .int 0, .int 0, .int 0, .int 0, .int 0]))]) [1, 2, 3, 4, 0] (by decide) rfl
  refine mk_back (x := (h0, .inr (2, [.ref q1, .ref q2, .ref q3, .ref q4, .int 0, .int 0, .int 0, .int 0, .int 0]))) (va_runV (C := RX2) (Ts := GW) (As := []) (rest := []) ⟨hx, hb, hml, hown, hts⟩ (n_reset (cT := cT) (dC := dC) (dI := dI) l q1 q2 q3 q4 h0 H.size) ⟨callB_of (Ts := GW) (ws' := GW) 0 hts (gwc kc_pk_kcr) rfl rfl rfl (hts _ kc_pk_iiX2) (hts _ kc_pk_mlr) ⟨by decide +kernel, by decide +kernel, by decide +kernel⟩ ⟨Nat.le_of_ble_eq_true rfl, Nat.le_of_ble_eq_true rfl⟩, hts _ kc_pk_imr, hts _ kc_pk_ser⟩ ⟨PcN_blind _ _ _, va_recv hK hP (ci := 2) (q0 := 4) rfl rfl, fun U hU hW => ⟨rfl, hWK.go hW, by rw [hU], by rw [hU]; exact hP.last, hD.last.weaken (fun _ _ _ _ => trivial)⟩⟩ rfl rfl hl.1 rfl (lv_room (Nat.le_of_ble_eq_true rfl)) dc_pk_36 ⟨Nat.le_of_ble_eq_true rfl, Nat.le_of_ble_eq_true rfl⟩) hP hD hS hA (fun w H locs hG hP hD hS => ?_)
  subst hG
  have hP : va_P (dC, dI) vwCl (wPk cT h0 q1 q2 q3 q4) H := hP.sub [4, 0, 1, 2, 3] rfl
  have hD := hD.sub (ws' := wPk cT h0 q1 q2 q3 q4) [4, 0, 1, 2, 3] (by decide) rfl
  refine W.widen (k := 4) (n := 53) (Nat.le_of_ble_eq_true rfl) (Nat.le_of_ble_eq_true rfl) ?_
  exact W.vret hx hb hr (fun t ht _ => ⟨⟨rfl, _, ⟨q1, q2, q3, q4, rfl⟩, by rw [ht]; exact hP, hD⟩, hS.F ht⟩) hS.2.2 dc_pk_39 hlocks
section NWM
variable {p : Program} {l : Launch} {e : Env} {R : Room} {s : State} {m : MethodId} {args : Array Value} {below : List Frame} {meth : Method} {c : Code} {H H0 : Heap} {locs : List Loc} {cells slots : Nat} {Q : State → Prop} {A : Nat → Prop} {cc : ByteArray} {pc : Nat} {ls : Array Slot} {rest : List Value}
theorem nw_mul {X : va_W} {L : List Nat} {own : String} {index : Nat} (hexec : p.tables.exec = Jvm.exec) (hb : c.code = cc) (hown : s.vm.findClass own = some m.cls) (hclink : (Cond.classLink own index "[[I").before args s = true) (hWK : WK cT dC dI s) (harr : (Cond.arrayClass .int).before args s = true) (hP : va_P (dC, dI) vwCl (X ++ rowsW cT L) H) (hD : va_D A (X ++ rowsW cT L)) (hS : va_S A H0 H locs) (hA : ∀ q, H0.size ≤ q → A q)
    (hcells : cells + (1 + 16) ≤ R.cells) (hslots : slots + (16 + 16 * 5) ≤ R.slots) (hdg : decode cc pc = .ok (.multianewarray index 2, 4))
    (kk : ∀ (q : Nat) (r : Nat → Nat) (H1 : Heap), va_P (dC, dI) vwCl ((X ++ [(q, oE cT r)]) ++ rowsW cT (L ++ (List.range 16).map r)) H1 → va_D A ((X ++ [(q, oE cT r)]) ++ rowsW cT (L ++ (List.range 16).map r)) → va_S A H0 H1 locs →
      W p l e R s m args below meth c H1 locs (cells + 1 + 16) (slots + 16 + 16 * 5) Q (F0 m (pc + 4) ls (.ref q :: rest))) : W p l e R s m args below meth c H locs cells slots Q (F0 m pc ls (.int 5 :: .int 16 :: rest)) := by
  have hK := hWK.1
  have e0 : ("[" ++ (FieldType.array .int).toString) = "[[I" := by decide
  refine va_mna (X := X) (L := L) (f := fun _ => zA (cT 0) 5) (ty := .int) (cy := cT 0) (z := (5, .inl (fun _ => 0))) (N' := 16) (K' := 5) hexec hb hown (by rw [e0]; exact hclink) hWK.2.2.2.2 harr ((hK.2 0 _ rfl).2) hK hP hD hS hA (by decide) (by decide) (by decide) (by decide) (by decide) (by decide) (by decide) rfl rfl hcells hslots (fun c => by
    show ({ cls := c, slots := Array.replicate 5 (.int 0), vm := .none } : Cell) = _
    rw [arrV_new]
    rfl) hdg (fun q r cA H1 _ _ hK1 hP1 hD1 hS1 => ?_)
  have f1 : s.vm.findClass ("[" ++ (FieldType.array .int).toString) = some (cT 5) := (hK.2 5 _ rfl).2
  have f2 : s.vm.findClass ("[" ++ (FieldType.array .int).toString) = some cA := (hK1.2 6 (cA, .array .int) rfl).2
  have : cA = cT 5 := Option.some.inj (f2.symm.trans f1)
  subst this
  rw [vr_c] at hP1 hD1
  exact kk q r H1 hP1 hD1 hS1
end NWM
set_option maxHeartbeats 4000000 in
set_option maxRecDepth 20000 in
theorem n_diff (l : Launch) (h0 sz : Nat) : Met l yX1_init (Cond.code yX1_init cX1_init 1 none :: GW) (rmN 1 36 224) (PcN cT dC dI [.ref h0] [(h0, .inr (1, [.null, .null, .null, .null, .int 0, .int 0, .int 0]))] sz) (QcN dC dI (fun w => ∃ o1 o2 r1 r2 g lg, w = wDf cT h0 o1 o2 r1 r2 g lg) [(h0, .inr (1, [.null, .null, .null, .null, .int 0, .int 0, .int 0]))] sz) 36 224 (va_A [(h0, .inr (1, [.null, .null, .null, .null, .int 0, .int 0, .int 0]))] sz) := by
  refine Met.ofW (cc := cX1_init) (maxL := 1) (ret := none) (by decide) rfl ?_
  intro p e s m args below meth c s₁ B hml hv
  obtain ⟨rfl, hWK, hsz, hP, hD0⟩ := hv
  have hx := B.exec
  have hb := B.bytes
  have hr := B.returns
  have hts0 := atoms_spec (ws := Cond.code yX1_init cX1_init 1 none :: GW) B.pre
  have hts : ∀ w ∈ GW, w.before _ s = true := fun w hw => hts0 w (List.mem_cons_of_mem _ hw)
  have hown : s.vm.findClass RX1 = some m.cls := findClass_of_methodNamed B.named
  have hlocks := B.notSynchronized
  have hin : meth.name = "<init>" := (name_of_methodNamed B.named B.method).1
  have hK := hWK.1
  subst hsz
  have hD := hD0.self (sz := s.heap.size)
  have hA : ∀ q : Nat, s.heap.size ≤ q → va_A [(h0, .inr (1, [.null, .null, .null, .null, .int 0, .int 0, .int 0]))] s.heap.size q := fun q h => Or.inr h
  have hS : va_S (va_A [(h0, .inr (1, [.null, .null, .null, .null, .int 0, .int 0, .int 0]))] s.heap.size) s.heap s.heap [] := va_S.rf
  have hl := lv_entry [.ref h0] (n := 1) (Nat.le_of_ble_eq_true rfl)
  rw [lg_entry_eq]
  generalize (lg_sl [.ref h0] ++ List.replicate (1 - (lg_sl [.ref h0]).length) Slot.unset).toArray = ls at hl ⊢
  have hl : lv_has ls 1 [(0, .ref h0)] := hl
  refine lv_aload_n hx hb dc_df_0 rfl (lv_at hl 0 rfl) ?_
  refine W.objInit hx hb hown (hts _ kc_df_ol) (hts _ kc_df_oi) (hts _ kc_df_oc) rfl (by rw [hml]; exact hl.1) rfl dc_df_1 (Nat.le_of_ble_eq_true rfl) (Nat.le_of_ble_eq_true rfl) ?_
  refine W.eq (g2 := F0 m 4 ls []) rfl ?_
  refine lv_aload_n hx hb dc_df_4 rfl (lv_at hl 0 rfl) ?_
  refine lv_bipush (v := 16) hx hb dc_df_5 (by decide) ?_
  refine lv_iconst (v := 5) hx hb dc_df_7 (by decide) ?_
  refine nw_mul (X := [(h0, .inr (1, [.null, .null, .null, .null, .int 0, .int 0, .int 0]))]) (L := []) hx hb hown (hts _ kc_df_cl9) hWK (hts _ kc_df_aint) hP hD hS hA (Nat.le_of_ble_eq_true rfl) (Nat.le_of_ble_eq_true rfl) dc_df_8 (fun o1 r1 H hP hD hS => ?_)
  refine va_putF hx hb hts (cl_ok 1 _ rfl).1 tyX1 tyX1_ok nmX1 hown hK hP hD hS 0 rfl rfl 0 (by decide) (hts _ kc_df_f11) (fun _ h => h) rfl hin rfl rfl rfl rfl (Nat.le_of_ble_eq_true rfl) dc_df_12 (fun H locs hP hD hS => ?_)
  refine lv_aload_n hx hb dc_df_15 rfl (lv_at hl 0 rfl) ?_
  refine lv_bipush (v := 16) hx hb dc_df_16 (by decide) ?_
  refine lv_iconst (v := 5) hx hb dc_df_18 (by decide) ?_
  refine nw_mul (X := [(h0, .inr (1, [.ref o1, .null, .null, .null, .int 0, .int 0, .int 0])), (o1, oE cT r1)]) (L := (List.range 16).map r1) hx hb hown (hts _ kc_df_cl9) hWK (hts _ kc_df_aint) hP hD hS hA (Nat.le_of_ble_eq_true rfl) (Nat.le_of_ble_eq_true rfl) dc_df_19 (fun o2 r2 H hP hD hS => ?_)
  refine va_putF hx hb hts (cl_ok 1 _ rfl).1 tyX1 tyX1_ok nmX1 hown hK hP hD hS 0 rfl rfl 1 (by decide) (hts _ kc_df_f16) (fun _ h => h) rfl hin rfl rfl rfl rfl (Nat.le_of_ble_eq_true rfl) dc_df_23 (fun H locs hP hD hS => ?_)
  refine lv_aload_n hx hb dc_df_26 rfl (lv_at hl 0 rfl) ?_
  refine lv_bipush (v := 16) hx hb dc_df_27 (by decide) ?_
  refine nw_arr (atype := .boolean) (t := 2) hx hb (hts _ kc_df_aboolean) rfl hK hP hD hS hA rfl (N' := 16) (by decide) (by decide) (fun _ => rfl) (Nat.le_of_ble_eq_true rfl) (Nat.le_of_ble_eq_true rfl) (Nat.le_of_ble_eq_true rfl) dc_df_29 (fun q1 H hP hD hS => ?_)
  refine va_putF hx hb hts (cl_ok 1 _ rfl).1 tyX1 tyX1_ok nmX1 hown hK hP hD hS 0 rfl rfl 2 (by decide) (hts _ kc_df_f19) (fun _ h => h) rfl hin rfl rfl rfl rfl (Nat.le_of_ble_eq_true rfl) dc_df_31 (fun H locs hP hD hS => ?_)
  refine lv_aload_n hx hb dc_df_34 rfl (lv_at hl 0 rfl) ?_
  refine lv_bipush (v := 16) hx hb dc_df_35 (by decide) ?_
  refine nw_arr (atype := .int) (t := 0) hx hb (hts _ kc_df_aint) rfl hK hP hD hS hA rfl (N' := 16) (by decide) (by decide) (fun _ => rfl) (Nat.le_of_ble_eq_true rfl) (Nat.le_of_ble_eq_true rfl) (Nat.le_of_ble_eq_true rfl) dc_df_37 (fun q2 H hP hD hS => ?_)
  refine va_putF hx hb hts (cl_ok 1 _ rfl).1 tyX1 tyX1_ok nmX1 hown hK hP hD hS 0 rfl rfl 3 (by decide) (hts _ kc_df_f23) (fun _ h => h) rfl hin rfl rfl rfl rfl (Nat.le_of_ble_eq_true rfl) dc_df_39 (fun H locs hP hD hS => ?_)
  refine lv_aload_n hx hb dc_df_42 rfl (lv_at hl 0 rfl) ?_
  refine lv_iconst (v := 0) hx hb dc_df_43 (by decide) ?_
  refine va_put hx hb hts (cl_ok 1 _ rfl).1 tyX1 tyX1_ok nmX1 hown hK hP hD hS 0 rfl rfl 4 (by decide) (hts _ kc_df_f27) (fun _ h => h) rfl rfl rfl rfl (Nat.le_of_ble_eq_true rfl) dc_df_44 (fun H locs hP hD hS => ?_)
  refine lv_aload_n hx hb dc_df_47 rfl (lv_at hl 0 rfl) ?_
  refine lv_iconst (v := 0) hx hb dc_df_48 (by decide) ?_
  refine va_put hx hb hts (cl_ok 1 _ rfl).1 tyX1 tyX1_ok nmX1 hown hK hP hD hS 0 rfl rfl 5 (by decide) (hts _ kc_df_f31) (fun _ h => h) rfl rfl rfl rfl (Nat.le_of_ble_eq_true rfl) dc_df_49 (fun H locs hP hD hS => ?_)
  refine lv_aload_n hx hb dc_df_52 rfl (lv_at hl 0 rfl) ?_
  refine lv_iconst (v := 2) hx hb dc_df_53 (by decide) ?_
  refine va_put hx hb hts (cl_ok 1 _ rfl).1 tyX1 tyX1_ok nmX1 hown hK hP hD hS 0 rfl rfl 6 (by decide) (hts _ kc_df_f34) (fun _ h => h) rfl rfl rfl rfl (Nat.le_of_ble_eq_true rfl) dc_df_54 (fun H locs hP hD hS => ?_)
  have hP : va_P (dC, dI) vwCl (wDf cT h0 o1 o2 r1 r2 q1 q2) H := hP
  have hD : va_D _ (wDf cT h0 o1 o2 r1 r2 q1 q2) := hD
  refine W.widen (k := 36) (n := 224) (Nat.le_of_ble_eq_true rfl) (Nat.le_of_ble_eq_true rfl) ?_
  exact W.vret hx hb hr (fun t ht _ => ⟨⟨rfl, _, ⟨o1, o2, r1, r2, q1, q2, rfl⟩, by rw [ht]; exact hP, hD⟩, hS.F ht⟩) hS.2.2 dc_df_57 hlocks
set_option maxHeartbeats 4000000 in
set_option maxRecDepth 20000 in
theorem n_ways (l : Launch) (h0 sz : Nat) : Met l yX6_init (Cond.code yX6_init cX6_init 1 none :: GW) (rmN 2 44 310) (PcN cT dC dI [.ref h0] [(h0, .inr (6, [.null, .null, .null, .null, .null]))] sz) (QcN dC dI (fun w => ∃ a b c d o1 o2 r1 r2 g lg e e1 e2 e3, w = wWy cT h0 a b c d o1 o2 r1 r2 g lg e e1 e2 e3) [(h0, .inr (6, [.null, .null, .null, .null, .null]))] sz) 44 310 (va_A [(h0, .inr (6, [.null, .null, .null, .null, .null]))] sz) := by
  refine Met.ofW (cc := cX6_init) (maxL := 1) (ret := none) (by decide) rfl ?_
  intro p e s m args below meth c s₁ B hml hv
  obtain ⟨rfl, hWK, hsz, hP, hD0⟩ := hv
  have hx := B.exec
  have hb := B.bytes
  have hr := B.returns
  have hts0 := atoms_spec (ws := Cond.code yX6_init cX6_init 1 none :: GW) B.pre
  have hts : ∀ w ∈ GW, w.before _ s = true := fun w hw => hts0 w (List.mem_cons_of_mem _ hw)
  have hown : s.vm.findClass RX6 = some m.cls := findClass_of_methodNamed B.named
  have hlocks := B.notSynchronized
  have hin : meth.name = "<init>" := (name_of_methodNamed B.named B.method).1
  have hK := hWK.1
  subst hsz
  have hD := hD0.self (sz := s.heap.size)
  have hA : ∀ q : Nat, s.heap.size ≤ q → va_A [(h0, .inr (6, [.null, .null, .null, .null, .null]))] s.heap.size q := fun q h => Or.inr h
  have hS : va_S (va_A [(h0, .inr (6, [.null, .null, .null, .null, .null]))] s.heap.size) s.heap s.heap [] := va_S.rf
  have hl := lv_entry [.ref h0] (n := 1) (Nat.le_of_ble_eq_true rfl)
  rw [lg_entry_eq]
  generalize (lg_sl [.ref h0] ++ List.replicate (1 - (lg_sl [.ref h0]).length) Slot.unset).toArray = ls at hl ⊢
  have hl : lv_has ls 1 [(0, .ref h0)] := hl
  refine lv_aload_n hx hb dc_wy_0 rfl (lv_at hl 0 rfl) ?_
  refine W.objInit hx hb hown (hts _ kc_wy_ol) (hts _ kc_wy_oi) (hts _ kc_wy_oc) rfl (by rw [hml]; exact hl.1) rfl dc_wy_1 (Nat.le_of_ble_eq_true rfl) (Nat.le_of_ble_eq_true rfl) ?_
  refine W.eq (g2 := F0 m 4 ls []) rfl ?_
  refine lv_aload_n hx hb dc_wy_4 rfl (lv_at hl 0 rfl) ?_
  refine lv_bipush (v := 16) hx hb dc_wy_5 (by decide) ?_
  refine nw_arr (atype := .int) (t := 0) hx hb (hts _ kc_wy_aint) rfl hK hP hD hS hA rfl (N' := 16) (by decide) (by decide) (fun _ => rfl) (Nat.le_of_ble_eq_true rfl) (Nat.le_of_ble_eq_true rfl) (Nat.le_of_ble_eq_true rfl) dc_wy_7 (fun q1 H hP hD hS => ?_)
  refine va_putF hx hb hts (cl_ok 6 _ rfl).1 tyX6 tyX6_ok nmX6 hown hK hP hD hS 0 rfl rfl 0 (by decide) (hts _ kc_wy_f9) (fun _ h => h) rfl hin rfl rfl rfl rfl (Nat.le_of_ble_eq_true rfl) dc_wy_9 (fun H locs hP hD hS => ?_)
  refine lv_aload_n hx hb dc_wy_12 rfl (lv_at hl 0 rfl) ?_
  refine lv_iconst (v := 5) hx hb dc_wy_13 (by decide) ?_
  refine nw_arr (atype := .int) (t := 0) hx hb (hts _ kc_wy_aint) rfl hK hP hD hS hA rfl (N' := 5) (by decide) (by decide) (fun _ => rfl) (Nat.le_of_ble_eq_true rfl) (Nat.le_of_ble_eq_true rfl) (Nat.le_of_ble_eq_true rfl) dc_wy_14 (fun q2 H hP hD hS => ?_)
  refine va_putF hx hb hts (cl_ok 6 _ rfl).1 tyX6 tyX6_ok nmX6 hown hK hP hD hS 0 rfl rfl 1 (by decide) (hts _ kc_wy_f15) (fun _ h => h) rfl hin rfl rfl rfl rfl (Nat.le_of_ble_eq_true rfl) dc_wy_16 (fun H locs hP hD hS => ?_)
  refine lv_aload_n hx hb dc_wy_19 rfl (lv_at hl 0 rfl) ?_
  refine lv_bipush (v := 16) hx hb dc_wy_20 (by decide) ?_
  refine nw_arr (atype := .int) (t := 0) hx hb (hts _ kc_wy_aint) rfl hK hP hD hS hA rfl (N' := 16) (by decide) (by decide) (fun _ => rfl) (Nat.le_of_ble_eq_true rfl) (Nat.le_of_ble_eq_true rfl) (Nat.le_of_ble_eq_true rfl) dc_wy_22 (fun q3 H hP hD hS => ?_)
  refine va_putF hx hb hts (cl_ok 6 _ rfl).1 tyX6 tyX6_ok nmX6 hown hK hP hD hS 0 rfl rfl 2 (by decide) (hts _ kc_wy_f18) (fun _ h => h) rfl hin rfl rfl rfl rfl (Nat.le_of_ble_eq_true rfl) dc_wy_24 (fun H locs hP hD hS => ?_)
  refine lv_aload_n hx hb dc_wy_27 rfl (lv_at hl 0 rfl) ?_
  refine va_new (ci := 1) (fs := [.null, .null, .null, .null, .int 0, .int 0, .int 0]) (C := RX1) (T := TX1) (N := 7) hx hb hts (cl_ok 1 _ rfl).1 tyX1 tyX1_ok hown (hts _ kc_wy_cl21) (hts _ kc_wy_itX1) (hts _ kc_wy_iiX1) hK hP hD hS hA rfl (fun j hj => by rcases (show j = 0 ∨ j = 1 ∨ j = 2 ∨ j = 3 ∨ j = 4 ∨ j = 5 ∨ j = 6 by omega) with rfl | rfl | rfl | rfl | rfl | rfl | rfl <;> rfl) (Nat.le_of_ble_eq_true rfl) (Nat.le_of_ble_eq_true rfl) dc_wy_28 (fun d0 H hP hD hS => ?_)
  refine lv_dup hx hb dc_wy_31 rfl ?_
  refine mk_back (x := (d0, .inr (1, [.null, .null, .null, .null, .int 0, .int 0, .int 0]))) (va_runIN (Ts := GW) (As := []) (rest := [.ref d0, .ref h0]) ⟨hx, hb, hml, hown, hts⟩ (n_diff (cT := cT) (dC := dC) (dI := dI) l d0 H.size) ⟨va_cnB (Ts := GW) (ws' := GW) (host := "CellPacks") 0 hts (gwc kc_wy_kcX1) rfl rfl rfl (hWK.2.1 _ kc_wy_ml23) (hts _ kc_wy_iiX1) ⟨by decide +kernel, by decide +kernel, by decide +kernel⟩ ⟨Nat.le_of_ble_eq_true rfl, Nat.le_of_ble_eq_true rfl⟩, rfl, hts _ kc_wy_imX1⟩ ⟨PcN_blind _ _ _, fun U hU hW => ⟨rfl, hWK.go hW, by rw [hU], by rw [hU]; exact hP.last, hD.last.weaken (fun _ _ _ _ => trivial)⟩⟩ rfl rfl hl.1 rfl (lv_room (Nat.le_of_ble_eq_true rfl)) dc_wy_32 ⟨Nat.le_of_ble_eq_true rfl, Nat.le_of_ble_eq_true rfl⟩) hP hD hS hA (fun w H locs hG hP hD hS => ?_)
  obtain ⟨o1, o2, r1, r2, g, lg, rfl⟩ := hG
  refine va_putF hx hb hts (cl_ok 6 _ rfl).1 tyX6 tyX6_ok nmX6 hown hK hP hD hS 0 rfl rfl 3 (by decide) (hts _ kc_wy_f24) (fun _ h => h) rfl hin rfl rfl rfl rfl (Nat.le_of_ble_eq_true rfl) dc_wy_35 (fun H locs hP hD hS => ?_)
  refine lv_aload_n hx hb dc_wy_38 rfl (lv_at hl 0 rfl) ?_
  refine va_new (ci := 0) (fs := [.null, .null, .null, .int 0, .int 0]) (C := RX0) (T := TX0) (N := 5) hx hb hts (cl_ok 0 _ rfl).1 tyX0 tyX0_ok hown (hts _ kc_wy_cl28) (hts _ kc_wy_itX0) (hts _ kc_wy_iiX0) hK hP hD hS hA rfl (fun j hj => by rcases (show j = 0 ∨ j = 1 ∨ j = 2 ∨ j = 3 ∨ j = 4 by omega) with rfl | rfl | rfl | rfl | rfl <;> rfl) (Nat.le_of_ble_eq_true rfl) (Nat.le_of_ble_eq_true rfl) dc_wy_39 (fun e0 H hP hD hS => ?_)
  refine lv_dup hx hb dc_wy_42 rfl ?_
  refine mk_back (x := (e0, .inr (0, [.null, .null, .null, .int 0, .int 0]))) (va_runIN (Ts := GW) (As := []) (rest := [.ref e0, .ref h0]) ⟨hx, hb, hml, hown, hts⟩ (n_best (cT := cT) (dC := dC) (dI := dI) l e0 H.size) ⟨va_cnB (Ts := GW) (ws' := GW) (host := "CellPacks") 0 hts (gwc kc_wy_kcX0) rfl rfl rfl (hWK.2.1 _ kc_wy_ml30) (hts _ kc_wy_iiX0) ⟨by decide +kernel, by decide +kernel, by decide +kernel⟩ ⟨Nat.le_of_ble_eq_true rfl, Nat.le_of_ble_eq_true rfl⟩, rfl, hts _ kc_wy_imX0⟩ ⟨PcN_blind _ _ _, fun U hU hW => ⟨rfl, hWK.go hW, by rw [hU], by rw [hU]; exact hP.last, hD.last.weaken (fun _ _ _ _ => trivial)⟩⟩ rfl rfl hl.1 rfl (lv_room (Nat.le_of_ble_eq_true rfl)) dc_wy_43 ⟨Nat.le_of_ble_eq_true rfl, Nat.le_of_ble_eq_true rfl⟩) hP hD hS hA (fun w H locs hG hP hD hS => ?_)
  obtain ⟨e1, e2, e3, rfl⟩ := hG
  refine va_putF hx hb hts (cl_ok 6 _ rfl).1 tyX6 tyX6_ok nmX6 hown hK hP hD hS 0 rfl rfl 4 (by decide) (hts _ kc_wy_f31) (fun _ h => h) rfl hin rfl rfl rfl rfl (Nat.le_of_ble_eq_true rfl) dc_wy_46 (fun H locs hP hD hS => ?_)
  have hP : va_P (dC, dI) vwCl (wWy cT h0 q1 q2 q3 d0 o1 o2 r1 r2 g lg e0 e1 e2 e3) H := hP
  have hD : va_D _ (wWy cT h0 q1 q2 q3 d0 o1 o2 r1 r2 g lg e0 e1 e2 e3) := hD
  refine W.widen (k := 44) (n := 310) (Nat.le_of_ble_eq_true rfl) (Nat.le_of_ble_eq_true rfl) ?_
  exact W.vret hx hb hr (fun t ht _ => ⟨⟨rfl, _, ⟨q1, q2, q3, d0, o1, o2, r1, r2, g, lg, e0, e1, e2, e3, rfl⟩, by rw [ht]; exact hP, hD⟩, hS.F ht⟩) hS.2.2 dc_wy_49 hlocks
end CTORS
