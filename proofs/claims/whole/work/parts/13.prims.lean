section SOPRM
variable {ad : Nat → Nat} {cT dC : Nat → ClassId} {dI : Nat → Nat → Nat} {adV : Nat → Nat}
variable {p : Program} {l : Launch} {e : Env} {R : Room} {s : State} {m : MethodId} {args : Array Value} {below : List Frame} {meth : Method} {c : Code} {cells slots : Nat} {Q : State → Prop}
theorem oi_max {x y : Int} (hx : inR x) (hy : inR y) : (if Int32.ofInt x < Int32.ofInt y then Int32.ofInt y else Int32.ofInt x) = Int32.ofInt (if x < y then y else x) := by
  by_cases h : x < y
  · rw [if_pos ((oi_lt hx hy).mpr h), if_pos h]
  · rw [if_neg (fun q => h ((oi_lt hx hy).mp q)), if_neg h]
theorem oi_min {x y : Int} (hx : inR x) (hy : inR y) : (if Int32.ofInt y < Int32.ofInt x then Int32.ofInt y else Int32.ofInt x) = Int32.ofInt (if y < x then y else x) := by
  by_cases h : y < x
  · rw [if_pos ((oi_lt hy hx).mpr h), if_pos h]
  · rw [if_neg (fun q => h ((oi_lt hy hx).mp q)), if_neg h]
theorem WO.go {H : Heap} {locs : List Loc} (h : WO ad cT dC dI adV s s.heap) (hS : va_S (AD ad) s.heap H locs) {U : State} (hU : U.heap = H) (hW : s.WarmedH U.vm) : WO ad cT dC dI adV U U.heap := by
  obtain ⟨h1, h2, h3, h4⟩ := h
  refine ⟨h1, va_K.moved hW.alike h2, fun w hw => ?_, StrOK.go h4 hS hU hW⟩
  have hz := h3 w hw
  have hn : isNst w = true := (List.mem_filter.mp hw).2
  cases w <;> first | exact va_Nw.warmF hW hz | exact va_Nw.warmM hW hz | (cases hn; done)
theorem WO.same {U U' : State} (h : WO ad cT dC dI adV U U.heap) (hv : U'.vm = U.vm) (hh : U'.heap = U.heap) : WO ad cT dC dI adV U' U'.heap := by
  obtain ⟨h1, h2, h3, h4⟩ := h
  have ha : U.vm.Alike U'.vm := by rw [hv]; exact Vm.Alike.refl _
  refine ⟨h1, va_K.moved ha h2, fun w hw => ?_, StrOK.same h4 hv hh⟩
  have hz := h3 w hw
  have hn : isNst w = true := (List.mem_filter.mp hw).2
  cases w <;> first | exact va_Nw.same rfl hv.symm hz | (cases hn; done)
/-- the room that is left for D calls, one inside another -/
def RM (D : Nat) (R : Room) : Prop := D ≤ R.frames ∧ 100 * D ≤ R.locals
theorem len_t : ∀ j, j < 5 → LEN.getD j 0 = (STT.getD j []).length ∧ Int32.ofNat (LEN.getD j 0) = Int32.ofInt (((STT.getD j []).length : Nat) : Int) := by decide
theorem chr_t : ∀ j, j < 5 → ∀ k, k < 6 → (BYT.getD j []).getD k 0 = Int32.ofInt ((STT.getD j []).getD k 0) := by decide
theorem stt_at {i : Nat} {t : List Int} (hi : 100 ≤ i) (ht : STT[i - 100]? = some t) : ∃ j, i = 100 + j ∧ j < 5 ∧ t = STT.getD j [] := by
  refine ⟨i - 100, by omega, ?_, ?_⟩
  · have h := (List.getElem?_eq_some_iff.mp ht).1
    have e : STT.length = 5 := rfl
    omega
  · rw [List.getD_eq_getElem?_getD, ht]
    rfl
set_option maxHeartbeats 1000000 in
/-- String.length() of a constant -/
theorem so_len {cc : ByteArray} {own : String} {index : Nat} {H : Heap} {locs : List Loc} {ls : Array Slot} {rest : List AV} {pc i : Nat} {t : List Int} (hx : p.tables.exec = Jvm.exec) (hb : c.code = cc) (hml : c.maxLocals = ls.size) (hown : s.vm.findClass own = some m.cls) (hts : ∀ w ∈ GW, w.before args s = true) (hW0 : WO ad cT dC dI adV s s.heap) (hR : RM 4 R) (hc : cells ≤ R.cells) (hs : slots ≤ R.slots) (hS : va_S (AD ad) s.heap H locs) (hi : 100 ≤ i) (ht : STT[i - 100]? = some t) (hcat : catS rest ≤ 8) (hlink : Cond.methodLink own index yJ0_length_8abf5 ∈ GW) (hd : decode cc pc = .ok (.invokevirtual index, 3))
    (k : W p l e R s m args below meth c H locs cells slots Q (F0 m (pc + 3) ls (.int (Int32.ofInt t.length) :: rest.map (cz ad)))) : W p l e R s m args below meth c H locs cells slots Q (F0 m pc ls (.ref (ad i) :: rest.map (cz ad))) := by
  obtain ⟨j, rfl, hj, rfl⟩ := stt_at hi ht
  have hl := (len_t j hj).2
  have hR1 := hR.1
  have hR2 := hR.2
  refine so_pure (va_runV (C := yJ0_length_8abf5.cls) (Ts := GW) (As := []) (rest := rest.map (cz ad)) ⟨hx, hb, hml, hown, hts⟩ (s_len (ad := ad) (adV := adV) l j hj) ⟨callB_of (Ts := GW) (ws' := GW) 0 hts (gwc kc_length) rfl rfl rfl (hts _ kn_J0) (hts _ hlink) ⟨by decide +kernel, by decide +kernel, by decide +kernel⟩ ⟨by show 1 + 1 ≤ R.frames; omega, by show 8 + (1 + 11) + 100 * 1 ≤ R.locals; omega⟩, hts _ ki_length, hts _ ke_length⟩ ⟨PcS_blind _, vk_recv hW0.2.2.2.1 hj hS, fun U hU hW2 => ⟨rfl, StrOK.go hW0.2.2.2 hS hU hW2⟩⟩ rfl rfl rfl rfl (lv_room (by rw [cz_catS]; exact hcat)) hd ⟨hc, hs⟩) ?_
  rw [hl]
  exact k
set_option maxHeartbeats 1000000 in
/-- String.charAt(k) of a constant -/
theorem so_chr {cc : ByteArray} {own : String} {index : Nat} {H : Heap} {locs : List Loc} {ls : Array Slot} {rest : List AV} {pc i : Nat} {t : List Int} {x : Int} (hx : p.tables.exec = Jvm.exec) (hb : c.code = cc) (hml : c.maxLocals = ls.size) (hown : s.vm.findClass own = some m.cls) (hts : ∀ w ∈ GW, w.before args s = true) (hW0 : WO ad cT dC dI adV s s.heap) (hR : RM 4 R) (hc : cells ≤ R.cells) (hs : slots ≤ R.slots) (hS : va_S (AD ad) s.heap H locs) (hi : 100 ≤ i) (ht : STT[i - 100]? = some t) (hx0 : 0 ≤ x) (hx1 : x < t.length) (hcat : catS rest ≤ 8) (hlink : Cond.methodLink own index yJ0_charAt_5068e ∈ GW) (hd : decode cc pc = .ok (.invokevirtual index, 3))
    (k : W p l e R s m args below meth c H locs cells slots Q (F0 m (pc + 3) ls (.int (Int32.ofInt (t.getD x.toNat 0)) :: rest.map (cz ad)))) : W p l e R s m args below meth c H locs cells slots Q (F0 m pc ls (.int (Int32.ofInt x) :: .ref (ad i) :: rest.map (cz ad))) := by
  obtain ⟨j, rfl, hj, rfl⟩ := stt_at hi ht
  have hl := (len_t j hj).1
  have h6 := len_6 j hj
  have hc2 := chr_t j hj x.toNat (by omega)
  have hR1 := hR.1
  have hR2 := hR.2
  rw [oi_nI hx0]
  refine so_pure (va_runV (C := yJ0_charAt_5068e.cls) (Ts := GW) (As := [.int (nI x.toNat)]) (rest := rest.map (cz ad)) ⟨hx, hb, hml, hown, hts⟩ (s_chr (ad := ad) (adV := adV) l j hj x.toNat (by omega)) ⟨callB_of (Ts := GW) (ws' := GW) 1 hts (gwc kc_chr) rfl rfl rfl (hts _ kn_J0) (hts _ hlink) ⟨by decide +kernel, by decide +kernel, by decide +kernel⟩ ⟨by show 3 + 1 ≤ R.frames; omega, by show 8 + (2 + 11) + 100 * 3 ≤ R.locals; omega⟩, hts _ ki_chr, hts _ ke_chr⟩ ⟨PcS_blind _, vk_recv hW0.2.2.2.1 hj hS, fun U hU hW2 => ⟨rfl, StrOK.go hW0.2.2.2 hS hU hW2⟩⟩ rfl rfl rfl rfl (lv_room (by rw [cz_catS]; exact hcat)) hd ⟨hc, hs⟩) ?_
  rw [hc2]
  exact k
set_option maxHeartbeats 4000000 in
set_option maxRecDepth 100000 in
theorem so_prm {mi : MI} {en : EN} {st st' : AS} {z kk : Nat} {v : Bool} (C : CX ad cT dC dI adV p s m args meth c mi) (hck : chkE mi en = true) (hpk : prK en = true) (hpc : en.1 = st.1) (hcall : callOf en = some (z, kk, v)) (hz : 1000 ≤ z) (h : prm (z - 1000) en.2.2.1 st.2.1 st.2.2.1 st.2.2.2 = some (.inl st')) (hR : RM 4 R) (hc : cells ≤ R.cells) (hs : slots ≤ R.slots) (k : WG ad cT dC dI p l e R s m args below meth c cells slots Q mi.2.2.2.1 st') : WG ad cT dC dI p l e R s m args below meth c cells slots Q mi.2.2.2.1 st := by
  obtain ⟨pc, L, S, M⟩ := st
  obtain ⟨pc', ins, nx, a, b, zz⟩ := en
  obtain ⟨o, nm, cc, ml, ret, na, sta⟩ := mi
  dsimp only at hpc
  subst hpc
  obtain ⟨n, hd, hnx, hn, hX⟩ := chk_dec hck
  dsimp only at hd hnx hn hX k h ⊢
  obtain ⟨hx, hb, hr, hml, ⟨own, hRN, hown⟩, hts, hlocks, hWO⟩ := C
  have hWO' := hWO
  obtain ⟨hinj, hK, hNW, hST⟩ := hWO
  dsimp only at hb hr hml hRN
  intro ls H locs hl hP hS
  dsimp only at hl hP ⊢
  have hD : va_D (AD ad) (WL ad cT M) := WL_D hinj
  have hml' : c.maxLocals = ls.size := hml.trans hl.1.symm
  have hfr : 1 ≤ R.frames := by have := hR.1; omega
  have hlo : ∀ r : List AV, catS r ≤ 8 → ((r.map (cz ad)).map fun v => v.category).sum + 13 ≤ R.locals := fun r h => by rw [cz_catS]; have := hR.2; omega
  -- which link
  have link : ∀ idx, (ins = .invokevirtual idx ∨ ins = .invokestatic idx) → a = z → ∃ nm', prN z = some nm' ∧ Cond.methodLink own idx nm' ∈ GW := by
    intro idx hi ha
    subst ha
    have hX2 : MLT.contains (o, idx, a, zz) = true := by
      rcases hi with rfl | rfl <;> exact hX
    obtain ⟨ow, g1, g2⟩ := ml_ok _ (List.contains_iff_mem.mp hX2)
    cases hRN.symm.trans g1
    rcases g2 with ⟨mi2, q1, -⟩ | ⟨-, q⟩
    · have : a < MT.length := (List.getElem?_eq_some_iff.mp q1).1
      have hlen : MT.length < 1000 := by decide +kernel
      omega
    · exact q
  unfold callOf at hcall
  dsimp only at hcall
  have three : ∀ j, z - 1000 = j → z = 1000 + j := fun j hj => by omega
  split at hcall
  · -- virtual
    rename_i idx
    (dsimp only [insN] at hn; subst hn)
    cases hcall
    obtain ⟨nm', hnm, hlk⟩ := link idx (Or.inl rfl) rfl
    unfold prK at hpk
    dsimp only at hpk
    have hge : 1003 ≤ z := by
      rw [Bool.or_eq_true] at hpk
      rcases hpk with q | q
      · have := Nat.lt_of_lt_of_le (Nat.blt_eq.mp q) hz; omega
      · exact Nat.le_of_ble_eq_true q
    unfold prm at h
    split at h
    · rename_i hq; have := three _ hq; omega
    · rename_i hq; have := three _ hq; omega
    · rename_i hq; have := three _ hq; omega
    · rename_i hq
      have hq := three _ hq
      subst hq
      cases hnm
      split at h
      · split at h
        · rename_i ht
          split at h
          · rename_i hcd
            cases h
            rw [hnx] at k
            exact so_len hx hb hml' hown hts hWO' hR hc hs hS hcd.1 ht hcd.2 hlk hd (k ls H locs hl hP hS)
          · cases h
        · cases h
      · cases h
    · rename_i hq
      have hq := three _ hq
      subst hq
      cases hnm
      split at h
      · split at h
        · rename_i ht
          split at h
          · rename_i hcd
            cases h
            rw [hnx] at k
            exact so_chr hx hb hml' hown hts hWO' hR hc hs hS hcd.1 ht hcd.2.1 hcd.2.2.1 hcd.2.2.2 hlk hd (k ls H locs hl hP hS)
          · cases h
        · cases h
      · cases h
    · cases h
  · -- static
    rename_i idx
    (dsimp only [insN] at hn; subst hn)
    cases hcall
    obtain ⟨nm', hnm, hlk⟩ := link idx (Or.inr rfl) rfl
    unfold prK at hpk
    dsimp only at hpk
    have hlt : z < 1003 := Nat.blt_eq.mp hpk
    unfold prm at h
    split at h
    · rename_i hq
      have hq := three _ hq
      subst hq
      cases hnm
      split at h
      · split at h
        · rename_i hcd
          cases h
          rw [hnx] at k
          refine va_mmax hx hb hml' hown (hts _ hlk) (hts _ pw_max1) (hts _ pw_math) (hts _ pw_max2) hfr (hlo _ hcd.2.2) hc hs hd ?_
          rw [oi_max hcd.1 hcd.2.1]
          exact k ls H locs hl hP hS
        · cases h
      · cases h
    · rename_i hq
      have hq := three _ hq
      subst hq
      cases hnm
      split at h
      · split at h
        · rename_i hcd
          cases h
          rw [hnx] at k
          refine va_mmin hx hb hml' hown (hts _ hlk) (hts _ pw_min1) (hts _ pw_math) (hts _ pw_min2) hfr (hlo _ hcd.2.2) hc hs hd ?_
          rw [oi_min hcd.1 hcd.2.1]
          exact k ls H locs hl hP hS
        · cases h
      · cases h
    · rename_i hq
      have hq := three _ hq
      subst hq
      cases hnm
      split at h
      · rename_i n0 dp cdst sp csrc r0
        split at h
        · rename_i h1 h2
          split at h
          · rename_i hcd
            cases h
            rw [hnx] at k
            have hs1 := arrN_s h1
            have hs2 := arrN_s h2
            obtain ⟨c1, c2, c3, c4, c5, ⟨c6, c7⟩, c8⟩ := hcd
            have r1 : inR n0 := ⟨by omega, by omega⟩
            have r2 : inR dp := ⟨by omega, by omega⟩
            have r3 : inR sp := ⟨by omega, by omega⟩
            have neg : ∀ w : Int, inR w → 0 ≤ w → ¬ Int32.ofInt w < 0 := fun w hw h0 q => by
              rw [oi_0, oi_lt hw ⟨by decide, by decide⟩] at q
              omega
            refine va_copyi (ty := .int) hx hb hml' hown (hts _ hlk) (hts _ pw_ac2) (hts _ pw_ac1) (hts _ pw_sys) hK hP hD hS _ _ 0 0 (WL_at hs2) (WL_at hs1) rfl rfl rfl (neg _ r3 c3) (neg _ r2 c2) (neg _ r1 c1) (by rw [oi_n r3, oi_n r1]; omega) (by rw [oi_n r2, oi_n r1]; omega) (fun _ _ => rfl) hfr (by rw [cz_catS]; have := hR.2; have e9 : nativeFrameWords "java/lang/System" "arraycopy" 5 ≤ 300 := (by decide +kernel); omega) hd (fun H1 locs1 hP1 _ hS1 => ?_)
            rw [oi_n r3, oi_n r2, oi_n r1, cpy_of _ _ _ _ _ c3 c2 c1] at hP1
            exact k ls H1 locs1 hl (by show va_P _ _ (WL ad cT (setC M _ _)) H1; rw [← WL_set hs1]; exact hP1) hS1
          · cases h
        · cases h
      · cases h
    · rename_i hq; have := three _ hq; omega
    · rename_i hq; have := three _ hq; omega
    · cases h
  · cases hcall
end SOPRM
