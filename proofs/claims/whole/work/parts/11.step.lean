theorem nar_bool {v : Int} (h : v = 0 ∨ v = 1) : vp_nar .boolean (Int32.ofInt v) = Int32.ofInt v := by rcases h with rfl | rfl <;> decide
theorem fv_ref {ad : Nat → Nat} {f : Int → Int} {fs : List (Option Nat)} {k t : Nat} (h : fs[k]? = some (some t)) : (fvs ad f fs 0)[k]? = some (.ref (ad t)) := by rw [fvs_get, h]; rfl
theorem fv_int {ad : Nat → Nat} {f : Int → Int} {fs : List (Option Nat)} {k : Nat} (h : fs[k]? = some none) : (fvs ad f fs 0)[k]? = some (.int (Int32.ofInt (f (k : Int)))) := by rw [fvs_get, h, Nat.zero_add]; rfl
section SOSTEP
variable {ad : Nat → Nat} {cT dC : Nat → ClassId} {dI : Nat → Nat → Nat} {adV : Nat → Nat}
variable {p : Program} {l : Launch} {e : Env} {R : Room} {s : State} {m : MethodId} {args : Array Value} {below : List Frame} {meth : Method} {c : Code} {cells slots : Nat} {Q : State → Prop}
set_option maxHeartbeats 4000000 in
set_option maxRecDepth 100000 in
theorem so_stp {mi : MI} {en : EN} {st st' : AS} (C : CX ad cT dC dI adV p s m args meth c mi) (hck : chkE mi en = true) (hpc : en.1 = st.1) (h : stp en st = some (.inl st')) (k : WG ad cT dC dI p l e R s m args below meth c cells slots Q mi.2.2.2.1 st') : WG ad cT dC dI p l e R s m args below meth c cells slots Q mi.2.2.2.1 st := by
  obtain ⟨pc, L, S, M⟩ := st
  obtain ⟨pc', ins, nx, a, b, z⟩ := en
  obtain ⟨o, nm, cc, ml, ret, na, sta⟩ := mi
  dsimp only at hpc
  subst hpc
  obtain ⟨n, hd, hnx, hn, hX⟩ := chk_dec hck
  dsimp only at hd hnx hn hX k ⊢
  obtain ⟨hx, hb, hr, hml, ⟨own, hRN, hown⟩, hts, hlocks, hinj, hK, hNW, hST⟩ := C
  dsimp only at hb hr hml hRN
  intro ls H locs hl hP hS
  dsimp only at hl hP ⊢
  have hD : va_D (AD ad) (WL ad cT M) := WL_D hinj
  have key : ∀ st2 : AS, st2 = st' → WG ad cT dC dI p l e R s m args below meth c cells slots Q ml st2 := fun _ q => q ▸ k
  unfold stp at h
  dsimp only at h
  split at h
  · -- iconst
    cases h
    have hz : z = _ := of_decide_eq_true hX
    subst hz
    (dsimp only [insN] at hn; subst hn)
    rw [hnx] at k
    exact lv_iconst hx hb hd rfl (k ls H locs hl hP hS)
  · -- bipush
    cases h
    obtain ⟨hz, h1, h2⟩ := of_decide_eq_true hX
    subst hz
    (dsimp only [insN] at hn; subst hn)
    rw [hnx] at k
    refine lv_bipush hx hb hd ?_ (k ls H locs hl hP hS)
    apply Int32.toInt_inj.mp
    rw [Int8.toInt_toInt32, oi_t ⟨by omega, by omega⟩]
    exact Int8.toInt_ofInt_of_le (by omega) (by omega)
  · -- sipush
    cases h
    obtain ⟨hz, h1, h2⟩ := of_decide_eq_true hX
    subst hz
    (dsimp only [insN] at hn; subst hn)
    rw [hnx] at k
    refine lv_sipush hx hb hd ?_ (k ls H locs hl hP hS)
    apply Int32.toInt_inj.mp
    rw [Int16.toInt_toInt32, oi_t ⟨by omega, by omega⟩]
    exact Int16.toInt_ofInt_of_le (by omega) (by omega)
  · -- ldc
    rename_i idx
    (dsimp only [insN] at hn; subst hn)
    split at h
    · cases h
      rw [hnx] at k
      obtain ⟨ow, h1, h2⟩ := ci_ok _ (List.contains_iff_mem.mp hX)
      cases hRN.symm.trans h1
      exact lv_ldc hx hb hown (hts _ h2) hd (k ls H locs hl hP hS)
    · rename_i hb0
      cases h
      rw [hnx] at k
      have hX2 : SRT.contains (o, idx, a) = true := by
        unfold chkX at hX
        dsimp only at hX
        split at hX
        · exact absurd rfl hb0
        · exact hX
      obtain ⟨ow, tx, h1, h2⟩ := hST.2.1 _ (List.contains_iff_mem.mp hX2)
      cases hRN.symm.trans h1
      exact va_ldcS hx hb hown h2 hd (k ls H locs hl hP hS)
  · -- ldc_w
    cases h
    (dsimp only [insN] at hn; subst hn)
    rw [hnx] at k
    obtain ⟨ow, h1, h2⟩ := ci_ok _ (List.contains_iff_mem.mp hX)
    cases hRN.symm.trans h1
    exact lv_ldcw hx hb hown (hts _ h2) hd (k ls H locs hl hP hS)
  · -- lconst
    cases h
    have hz : z = _ := of_decide_eq_true hX
    subst hz
    (dsimp only [insN] at hn; subst hn)
    rw [hnx] at k
    refine lv_lconst hx hb hd ?_ (k ls H locs hl hP hS)
    apply Int64.toBitVec.inj
    simp
  · -- ldc2_w
    cases h
    (dsimp only [insN] at hn; subst hn)
    rw [hnx] at k
    obtain ⟨ow, h1, h2⟩ := clo_ok _ (List.contains_iff_mem.mp hX)
    cases hRN.symm.trans h1
    exact lv_ldc2 hx hb hown (hts _ h2) hd (k ls H locs hl hP hS)
  · -- iload
    obtain ⟨x, h1, h2⟩ := Option.map_eq_some_iff.mp h
    cases h2
    (dsimp only [insN] at hn; subst hn)
    rw [hnx] at k
    exact lv_iload hx hb hd (ldI_at hl h1) (k ls H locs hl hP hS)
  · -- iload_n
    obtain ⟨x, h1, h2⟩ := Option.map_eq_some_iff.mp h
    cases h2
    (dsimp only [insN] at hn; subst hn)
    rw [hnx] at k
    exact lv_iload_n hx hb hd rfl (ldI_at hl h1) (k ls H locs hl hP hS)
  · -- lload
    obtain ⟨x, h1, h2⟩ := Option.map_eq_some_iff.mp h
    cases h2
    (dsimp only [insN] at hn; subst hn)
    rw [hnx] at k
    exact lv_lload hx hb hd (ldJ_at hl h1) (k ls H locs hl hP hS)
  · -- lload_n
    obtain ⟨x, h1, h2⟩ := Option.map_eq_some_iff.mp h
    cases h2
    (dsimp only [insN] at hn; subst hn)
    rw [hnx] at k
    exact lv_lload_n hx hb hd rfl (ldJ_at hl h1) (k ls H locs hl hP hS)
  · -- aload
    obtain ⟨x, h1, h2⟩ := Option.map_eq_some_iff.mp h
    cases h2
    (dsimp only [insN] at hn; subst hn)
    rw [hnx] at k
    exact lv_aload hx hb hd (ldR_at hl h1) (k ls H locs hl hP hS)
  · -- aload_n
    obtain ⟨x, h1, h2⟩ := Option.map_eq_some_iff.mp h
    cases h2
    (dsimp only [insN] at hn; subst hn)
    rw [hnx] at k
    exact lv_aload_n hx hb hd rfl (ldR_at hl h1) (k ls H locs hl hP hS)
  · -- istore
    (dsimp only [insN] at hn; subst hn)
    split at h
    · split at h
      · rename_i hk
        cases h
        rw [hnx] at k
        exact lv_istore hx hb hd hl.has (by have := hl.2.1; omega) rfl (fun ls' hl' => k ls' H locs (LH_st1 (v := .inl _) hl hk hl') hP hS)
      · cases h
    · cases h
  · -- istore_n
    (dsimp only [insN] at hn; subst hn)
    split at h
    · split at h
      · rename_i hk
        cases h
        rw [hnx] at k
        exact lv_istore_n hx hb hd rfl hl.has (by have := hl.2.1; omega) rfl (fun ls' hl' => k ls' H locs (LH_st1 (v := .inl _) hl hk hl') hP hS)
      · cases h
    · cases h
  · -- lstore
    (dsimp only [insN] at hn; subst hn)
    split at h
    · split at h
      · rename_i hk
        cases h
        rw [hnx] at k
        exact lv_lstore hx hb hd hl.has (by have := hl.2.1; omega) rfl (fun ls' hl' => k ls' H locs (LH_st2 (v := .inr (.inl _)) hl hk hl') hP hS)
      · cases h
    · cases h
  · -- astore
    (dsimp only [insN] at hn; subst hn)
    split at h
    · split at h
      · rename_i hk
        cases h
        rw [hnx] at k
        exact lv_astore hx hb hd hl.has (by have := hl.2.1; omega) rfl (fun ls' hl' => k ls' H locs (LH_st1 (v := .inr (.inr _)) hl hk hl') hP hS)
      · cases h
    · cases h
  · -- astore_n
    (dsimp only [insN] at hn; subst hn)
    split at h
    · split at h
      · rename_i hk
        cases h
        rw [hnx] at k
        exact lv_astore_n hx hb hd rfl hl.has (by have := hl.2.1; omega) rfl (fun ls' hl' => k ls' H locs (LH_st1 (v := .inr (.inr _)) hl hk hl') hP hS)
      · cases h
    · cases h
  · -- iinc
    (dsimp only [insN] at hn; subst hn)
    split at h
    · rename_i hk
      obtain ⟨x, h1, h2⟩ := Option.map_eq_some_iff.mp h
      cases h2
      rw [hnx] at k
      obtain ⟨j, hj⟩ := alL_at (ad := ad) h1
      exact lv_iinc hx hb hd hl.has hj (Int32.ofInt_add _ _).symm (by have := hl.2.1; omega) rfl (fun ls' hl' => k ls' H locs (LH_st1 (v := .inl _) hl hk hl') hP hS)
    · cases h
  · -- dup
    (dsimp only [insN] at hn; subst hn)
    split at h
    · split at h
      · rename_i hc
        cases h
        rw [hnx] at k
        exact lv_dup hx hb hd (by rw [cz_cat]; exact hc) (k ls H locs hl hP hS)
      · cases h
    · cases h
  · -- dup2
    (dsimp only [insN] at hn; subst hn)
    split at h
    · split at h
      · rename_i hc
        cases h
        rw [hnx] at k
        exact lv_dup2_11 hx hb hd (by rw [cz_cat]; exact hc.1) (by rw [cz_cat]; exact hc.2) (k ls H locs hl hP hS)
      · cases h
    · cases h
  · -- pop
    (dsimp only [insN] at hn; subst hn)
    split at h
    · split at h
      · rename_i hc
        cases h
        rw [hnx] at k
        exact lv_pop hx hb hd (by rw [cz_cat]; exact hc) (k ls H locs hl hP hS)
      · cases h
    · cases h
  · -- i2l
    (dsimp only [insN] at hn; subst hn)
    split at h
    · split at h
      · rename_i hc
        cases h
        rw [hnx] at k
        refine lv_i2l hx hb hd ?_ (k ls H locs hl hP hS)
        apply Int64.toInt_inj.mp
        rw [Int32.toInt_toInt64, oi_t hc, oi_t64 ⟨by have := hc.1; omega, by have := hc.2; omega⟩]
      · cases h
    · cases h
  · -- ladd
    (dsimp only [insN] at hn; subst hn)
    split at h
    · cases h
      rw [hnx] at k
      refine lv_ladd hx hb hd ?_
      rw [← Int64.ofInt_add]
      exact k ls H locs hl hP hS
    · cases h
  · -- lcmp
    (dsimp only [insN] at hn; subst hn)
    split at h
    · split at h
      · rename_i hc
        cases h
        rw [hnx] at k
        refine W.lcmp hx hb hd ?_
        rw [so_lcmp hc.1 hc.2]
        exact k ls H locs hl hP hS
      · cases h
    · cases h
  · -- goto
    (dsimp only [insN] at hn; subst hn)
    cases h
    exact lv_goto hx hb hd (of_decide_eq_true hX) (k ls H locs hl hP hS)
  · -- ifCond
    (dsimp only [insN] at hn; subst hn)
    split at h
    · split at h
      · rename_i hc
        cases h
        rw [hnx] at k
        exact so_if hx hb hc hd (of_decide_eq_true hX) (k ls H locs hl hP hS)
      · cases h
    · cases h
  · -- if_icmp
    (dsimp only [insN] at hn; subst hn)
    split at h
    · split at h
      · rename_i hc
        cases h
        rw [hnx] at k
        exact so_icmp hx hb hc.1 hc.2 hd (of_decide_eq_true hX) (k ls H locs hl hP hS)
      · cases h
    · cases h
  · -- tableswitch
    split at h
    · split at h
      · rename_i hc
        obtain ⟨t, h1, h2⟩ := Option.map_eq_some_iff.mp h
        cases h2
        unfold chkX at hX
        dsimp only at hX
        rw [Bool.and_eq_true] at hX
        have hd0 : 0 ≤ (pc' : Int) + _ := of_decide_eq_true hX.1
        unfold tswT at h1
        split at h1
        · rename_i ho
          cases h1
          refine lv_tableOut hx hb hd (by rw [oi_t hc]; exact ho) ?_ (k ls H locs hl hP hS)
          show _ = ((jmp pc' _ : Nat) : Int)
          unfold jmp
          omega
        · rename_i ho
          obtain ⟨off, h3, h4⟩ := Option.map_eq_some_iff.mp h1
          subst h4
          refine lv_tableIn (off := off) hx hb hd (by rw [oi_t hc]; exact fun q => ho (Or.inl q)) (by rw [oi_t hc]; exact fun q => ho (Or.inr q)) (by rw [oi_t hc]; exact h3) ?_ (k ls H locs hl hP hS)
          have := List.all_eq_true.mp hX.2 off (by
            obtain ⟨g1, g2⟩ := Array.getElem?_eq_some_iff.mp h3
            rw [← g2]
            exact Array.getElem_mem_toList g1)
          have h5 : 0 ≤ (pc' : Int) + off := of_decide_eq_true this
          show _ = ((jmp pc' _ : Nat) : Int)
          unfold jmp
          omega
      · cases h
    · cases h
  · -- lookupswitch
    split at h
    · split at h
      · rename_i d0 ps0 S0 x0 r0 hc
        cases h
        unfold chkX at hX
        dsimp only at hX
        rw [Bool.and_eq_true, Bool.and_eq_true] at hX
        have hd0 : 0 ≤ (pc' : Int) + _ := of_decide_eq_true hX.1.1
        refine lv_lookup hx hb hd hX.2 rfl ?_ (k ls H locs hl hP hS)
        rw [oi_t hc]
        have pos : ∀ (ps : List (Int × Int)) (d x : Int), 0 ≤ (pc' : Int) + d → (∀ o ∈ ps, 0 ≤ (pc' : Int) + o.2) → 0 ≤ (pc' : Int) + Op.lookupswitch.offset ps d x := by
          intro ps
          induction ps with
          | nil => intro d x h1 _; exact h1
          | cons q ps ih =>
            intro d x h1 h2
            obtain ⟨qa, qo⟩ := q
            rw [Op.lookupswitch.offset_cons]
            split
            · exact h2 _ List.mem_cons_self
            · exact ih d x h1 (fun o ho => h2 o (List.mem_cons_of_mem _ ho))
        have h5 := pos ps0.toList d0 x0 hd0 (fun o ho => of_decide_eq_true (List.all_eq_true.mp hX.1.2 o ho))
        show _ = ((lswT pc' _ _ _ : Nat) : Int)
        unfold lswT jmp
        omega
      · cases h
    · cases h
  · -- arraylength
    (dsimp only [insN] at hn; subst hn)
    split at h
    · split at h
      · rename_i hs
        cases h
        rw [hnx] at k
        have hs := arrN_s hs
        refine va_alen hx hb hK hP _ 0 (WL_at hs) rfl ?_ hd (k ls H locs hl hP hS)
        apply Int32.toBitVec.inj
        simp
      · cases h
    · cases h
  · -- iaload
    (dsimp only [insN] at hn; subst hn)
    split at h
    · split at h
      · rename_i hs
        split at h
        · rename_i hc
          cases h
          rw [hnx] at k
          have hs := arrN_s hs
          refine va_iald hx hb hK hP _ 0 (WL_at hs) rfl (oi_in hc.1 hc.2.1 hc.2.2) hd ?_
          rw [oi_n ⟨by omega, by omega⟩, Int.toNat_of_nonneg hc.1]
          exact k ls H locs hl hP hS
        · cases h
      · cases h
    · cases h
  · -- baload
    (dsimp only [insN] at hn; subst hn)
    split at h
    · split at h
      · rename_i hs
        split at h
        · rename_i hc
          cases h
          rw [hnx] at k
          obtain ⟨hs, ht⟩ := arrB_s hs
          rcases ht with rfl | rfl
          · refine va_bald hx hb hK hP _ 1 (WL_at hs) rfl (oi_in hc.1 hc.2.1 hc.2.2) hd ?_
            rw [oi_n ⟨by omega, by omega⟩, Int.toNat_of_nonneg hc.1]
            exact k ls H locs hl hP hS
          · refine va_zald hx hb hK hP _ 2 (WL_at hs) rfl (oi_in hc.1 hc.2.1 hc.2.2) hd ?_
            rw [oi_n ⟨by omega, by omega⟩, Int.toNat_of_nonneg hc.1]
            exact k ls H locs hl hP hS
        · cases h
      · cases h
    · cases h
  · -- aaload
    (dsimp only [insN] at hn; subst hn)
    split at h
    · split at h
      · rename_i hs
        split at h
        · rename_i hc
          obtain ⟨t, h1, h2⟩ := Option.map_eq_some_iff.mp h
          cases h2
          rw [hnx] at k
          obtain ⟨t0, hs⟩ := refA_s hs
          have q := k ls H locs hl hP hS
          rcases shp_ref hs with rfl | rfl | rfl
          · refine so_aald hx hb hK hP _ 3 rfl (WL_at hs) rfl (oi_in hc.1 hc.2.1 hc.2.2) hd ?_
            rw [oi_n ⟨by omega, by omega⟩, h1]
            exact q
          · refine so_aald hx hb hK hP _ 4 rfl (WL_at hs) rfl (oi_in hc.1 hc.2.1 hc.2.2) hd ?_
            rw [oi_n ⟨by omega, by omega⟩, h1]
            exact q
          · refine so_aald hx hb hK hP _ 5 rfl (WL_at hs) rfl (oi_in hc.1 hc.2.1 hc.2.2) hd ?_
            rw [oi_n ⟨by omega, by omega⟩, h1]
            exact q
        · cases h
      · cases h
    · cases h
  · -- iastore
    (dsimp only [insN] at hn; subst hn)
    split at h
    · split at h
      · rename_i hs
        split at h
        · rename_i hc
          cases h
          rw [hnx] at k
          have hs := arrN_s hs
          refine va_iast hx hb hK hP hD hS _ 0 (WL_at hs) rfl (oi_in hc.1 hc.2.1 hc.2.2) hd (fun H1 locs1 hP1 _ hS1 => ?_)
          rw [oi_n ⟨by omega, by omega⟩, upd_of _ _ _ hc.1] at hP1
          exact k ls H1 locs1 hl (by show va_P _ _ (WL ad cT (setC M _ _)) H1; rw [← WL_set hs]; exact hP1) hS1
        · cases h
      · cases h
    · cases h
  · -- bastore
    (dsimp only [insN] at hn; subst hn)
    split at h
    · split at h
      · rename_i hs
        split at h
        · rename_i hc
          cases h
          rw [hnx] at k
          obtain ⟨hs, ht⟩ := arrB_s hs
          obtain ⟨hc1, hc2, hc3, hc4⟩ := hc
          rcases ht with rfl | rfl
          · have hc4 := hc4.elim (fun q => q.2) (fun q => absurd q.1 (by decide))
            refine va_bast hx hb hK hP hD hS _ 1 (WL_at hs) rfl (oi_in hc1 hc2 hc3) hd (fun H1 locs1 hP1 _ hS1 => ?_)
            rw [oi_n ⟨by omega, by omega⟩, vp_nar_byte, show (Int32.ofInt _).toInt8.toInt32 = Int32.ofInt _ from by
              apply Int32.toInt_inj.mp
              rw [Int8.toInt_toInt32, Int32.toInt_toInt8, oi_t ⟨by omega, by omega⟩]
              exact Int.bmod_eq_of_le (by omega) (by omega), upd_of _ _ _ hc1] at hP1
            exact k ls H1 locs1 hl (by show va_P _ _ (WL ad cT (setC M _ _)) H1; rw [← WL_set hs]; exact hP1) hS1
          · have hc4 := hc4.elim (fun q => absurd q.1 (by decide)) (fun q => q.2)
            refine va_zast hx hb hK hP hD hS _ 2 (WL_at hs) rfl (oi_in hc1 hc2 hc3) hd (fun H1 locs1 hP1 _ hS1 => ?_)
            rw [oi_n ⟨by omega, by omega⟩, nar_bool hc4, upd_of _ _ _ hc1] at hP1
            exact k ls H1 locs1 hl (by show va_P _ _ (WL ad cT (setC M _ _)) H1; rw [← WL_set hs]; exact hP1) hS1
        · cases h
      · cases h
    · cases h
  · -- getfield
    (dsimp only [insN] at hn; subst hn)
    obtain ⟨ow, C0, T, N, g1, g2, g3, g4⟩ := fl_ok _ (List.contains_iff_mem.mp hX)
    dsimp only at g1 g2 g3 g4
    cases hRN.symm.trans g1
    have hin := (cl_ok _ _ g2).1
    split at h
    · split at h
      · rename_i S0 c0 r0 x0 t0 hf
        cases h
        rw [hnx] at k
        obtain ⟨fs, hs, hf⟩ := fldA_s hf
        have hv := fv_ref (ad := ad) (f := M c0) hf
        rcases g4 with g4 | ⟨host, g4⟩
        · exact va_get hx hb hts hin hown hK hP _ (WL_at hs) g2 b g3 (hts _ g4) (fun _ q => q) hv hd (k ls H locs hl hP hS)
        · exact va_getN hx hb hts hin hown hK hP _ (WL_at hs) g2 b g3 (va_Nw.use rfl (hNW _ g4)) (fun _ q => q) hv hd (k ls H locs hl hP hS)
      · rename_i S0 c0 r0 x0 hf
        cases h
        rw [hnx] at k
        obtain ⟨fs, hs, hf⟩ := fldA_s hf
        have hv := fv_int (ad := ad) (f := M c0) hf
        rcases g4 with g4 | ⟨host, g4⟩
        · exact va_get hx hb hts hin hown hK hP _ (WL_at hs) g2 b g3 (hts _ g4) (fun _ q => q) hv hd (k ls H locs hl hP hS)
        · exact va_getN hx hb hts hin hown hK hP _ (WL_at hs) g2 b g3 (va_Nw.use rfl (hNW _ g4)) (fun _ q => q) hv hd (k ls H locs hl hP hS)
      · cases h
    · cases h
  · -- putfield
    (dsimp only [insN] at hn; subst hn)
    unfold chkX at hX
    dsimp only at hX
    rw [Bool.and_eq_true] at hX
    obtain ⟨ow, C0, T, N, g1, g2, g3, g4⟩ := fl_ok _ (List.contains_iff_mem.mp hX.1)
    obtain ⟨C1, T1, N1, g5, g6, g7⟩ := fp_ok _ (List.contains_iff_mem.mp hX.2)
    dsimp only at g1 g2 g3 g4 g5 g6 g7
    cases hRN.symm.trans g1
    cases g2.symm.trans g5
    obtain ⟨hin, ⟨ty0, hty⟩, hnm⟩ := cl_ok _ _ g2
    split at h
    · split at h
      · rename_i S0 v0 c0 r0 x0 hf
        cases h
        rw [hnx] at k
        obtain ⟨fs, hs, hf⟩ := fldA_s hf
        have hlen : b < (fvs ad (M c0) fs 0).length := (List.getElem?_eq_some_iff.mp (fv_int (ad := ad) (f := M c0) hf)).1
        have hpd : parseFieldDescriptor (T b).2.2.1 = some .int := by rw [g7]; decide +kernel
        have fin : ∀ (H1 : Heap) (locs1 : List Loc), va_P (dC, dI) vwCl ((WL ad cT M).set c0 (ad c0, .inr (a, (fvs ad (M c0) fs 0).set b (.int (Int32.ofInt v0))))) H1 → va_D (AD ad) ((WL ad cT M).set c0 (ad c0, .inr (a, (fvs ad (M c0) fs 0).set b (.int (Int32.ofInt v0))))) → va_S (AD ad) s.heap H1 locs1 → W p l e R s m args below meth c H1 locs1 cells slots Q (F0 m (pc' + 3) ls (r0.map (cz ad))) := fun H1 locs1 hP1 _ hS1 => by
          rw [fvs_set _ _ _ _ hf] at hP1
          exact k ls H1 locs1 hl (by show va_P _ _ (WL ad cT (setC M _ _)) H1; rw [← WL_set hs]; exact hP1) hS1
        rcases g4 with g4 | ⟨host, g4⟩
        · exact va_put hx hb hts hin ty0 hty hnm hown hK hP hD hS _ (WL_at hs) g2 b g3 (hts _ g4) (fun _ q => q) g6 hpd rfl rfl hlen hd fin
        · exact va_putN hx hb hts hin ty0 hty hnm hown hK hP hD hS _ (WL_at hs) g2 b g3 (va_Nw.use rfl (hNW _ g4)) (fun _ q => q) g6 hpd rfl rfl hlen hd fin
      · cases h
    · cases h
  · -- ireturn
    split at h
    · split at h <;> cases h
    · cases h
  · -- areturn
    split at h <;> cases h
  · -- return_
    split at h <;> cases h
  · -- ineg
    (dsimp only [insN] at hn; subst hn)
    split at h
    · obtain ⟨v, h1, h2⟩ := Option.map_eq_some_iff.mp h
      cases h2
      rw [hnx] at k
      rcases un_ok h1 with ⟨-, q⟩ | ⟨q, -⟩ | ⟨q, -⟩
      · refine lv_ineg hx hb hd ?_
        rw [← q]
        exact k ls H locs hl hP hS
      · cases q
      · cases q
    · cases h
  · -- i2b
    (dsimp only [insN] at hn; subst hn)
    split at h
    · obtain ⟨v, h1, h2⟩ := Option.map_eq_some_iff.mp h
      cases h2
      rw [hnx] at k
      rcases un_ok h1 with ⟨q, -⟩ | ⟨-, q⟩ | ⟨q, -⟩
      · cases q
      · exact lv_i2b hx hb hd q (k ls H locs hl hP hS)
      · cases q
    · cases h
  · -- i2s
    (dsimp only [insN] at hn; subst hn)
    split at h
    · obtain ⟨v, h1, h2⟩ := Option.map_eq_some_iff.mp h
      cases h2
      rw [hnx] at k
      rcases un_ok h1 with ⟨q, -⟩ | ⟨q, -⟩ | ⟨-, q⟩
      · cases q
      · cases q
      · exact lv_i2s hx hb hd q (k ls H locs hl hP hS)
    · cases h
  · -- the rest
    split at h
    · obtain ⟨v, h1, h2⟩ := Option.map_eq_some_iff.mp h
      cases h2
      have hn1 : n = 1 := by
        rcases bin_ok h1 with ⟨rfl, -⟩ | ⟨rfl, -⟩ | ⟨rfl, -⟩ | ⟨rfl, -⟩ | ⟨rfl, -⟩ | ⟨rfl, -⟩ | ⟨rfl, -⟩ | ⟨rfl, -⟩ | ⟨rfl, -⟩ | ⟨rfl, -⟩ <;> exact hn
      subst hn1
      rw [hnx] at k
      exact so_bin hx hb h1 hd (k ls H locs hl hP hS)
    · cases h
end SOSTEP
