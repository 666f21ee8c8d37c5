/-! constructors: what they share -/
theorem va_AOA.moved {ty : FieldType} {u U : State} (hvm : u.vm.Alike U.vm) (h : va_AOA ty u) : va_AOA ty U := by
  obtain ⟨comp, c, k, h1, h2, h3, h4, h5⟩ := arrayOverA_spec h
  obtain ⟨k', hk', he⟩ := hvm.2.2 _ _ h3
  have hkind : k'.kind = .array comp (.array ty) := by rw [he]; exact h4
  have f1 : U.vm.findClass (FieldType.array ty).toString = some comp := by rw [hvm.findClass]; exact h1
  have f2 : U.vm.findClass ("[" ++ (FieldType.array ty).toString) = some c := by rw [hvm.findClass]; exact h5
  show (Cond.arrayOver (.array ty)).before #[] U = true
  simp only [Cond.before, Cond.holds, Cond.value, beq_iff_eq, f1, Option.bind_some, Option.bind_eq_some_iff, Option.map_eq_some_iff]
  exact ⟨c, (hvm.findIdx?_eq _ (fun _ => rfl)).trans h2, k', hk', by rw [hkind]; simp [f2]⟩
section CTOR
variable {cT dC : Nat → ClassId} {dI : Nat → Nat → Nat}
variable {p : Program} {l : Launch} {e : Env} {R : Room} {s : State} {m : MethodId} {args : Array Value} {below : List Frame} {meth : Method} {c : Code} {H H0 : Heap} {locs : List Loc} {cells slots : Nat} {Q : State → Prop} {A : Nat → Prop} {cc : ByteArray} {ws : va_W} {pc : Nat} {ls : Array Slot} {rest : List Value}
def WK (cT dC : Nat → ClassId) (dI : Nat → Nat → Nat) (U : State) : Prop := va_K (dC, dI) vwCl (TYS cT) U ∧ (∀ w ∈ NWs, va_Nw w U) ∧ va_AO RX2 U ∧ va_AO RX3 U ∧ va_AOA .int U
theorem WK.go (h : WK cT dC dI s) {U : State} (hW : s.WarmedH U.vm) : WK cT dC dI U := by
  obtain ⟨h2, h3, h4, h5, h6⟩ := h
  refine ⟨va_K.moved hW.alike h2, fun w hw => ?_, va_AO.moved hW.alike h4, va_AO.moved hW.alike h5, va_AOA.moved hW.alike h6⟩
  have hz := h3 w hw
  have hn : isNst w = true := (List.mem_filter.mp hw).2
  cases w <;> first | exact va_Nw.warmF hW hz | exact va_Nw.warmM hW hz | (cases hn; done)
theorem WK.same {U U' : State} (h : WK cT dC dI U) (hv : U'.vm = U.vm) : WK cT dC dI U' := by
  obtain ⟨h2, h3, h4, h5, h6⟩ := h
  have ha : U.vm.Alike U'.vm := by rw [hv]; exact Vm.Alike.refl _
  refine ⟨va_K.moved ha h2, fun w hw => ?_, va_AO.moved ha h4, va_AO.moved ha h5, va_AOA.moved ha h6⟩
  have hz := h3 w hw
  have hn : isNst w = true := (List.mem_filter.mp hw).2
  cases w <;> first | exact va_Nw.same rfl hv.symm hz | (cases hn; done)
def rmN (D mc ms : Nat) : Room := { frames := D, cells := mc, slots := ms, locals := 100 * D }
def PcN (cT dC : Nat → ClassId) (dI : Nat → Nat → Nat) (as : List Value) (ws : va_W) (sz : Nat) : Array Value → State → Prop := va_Pc as (fun U => WK cT dC dI U ∧ U.heap.size = sz ∧ va_P (dC, dI) vwCl ws U.heap ∧ va_D (fun _ => True) ws)
def QcN (dC : Nat → ClassId) (dI : Nat → Nat → Nat) (G : va_W → Prop) (ws : va_W) (sz : Nat) : Array Value → State → Outcome → State → Prop := fun _ st oc t => (oc = .returned none ∧ ∃ w, G w ∧ va_P (dC, dI) vwCl w t.heap ∧ va_D (va_A ws sz) w) ∧ va_F (va_A ws sz) st t
theorem PcN_blind (as : List Value) (ws : va_W) (sz : Nat) : FrameBlind (PcN cT dC dI as ws sz) := fun a U g mk q => ⟨q.1, WK.same q.2.1 rfl, q.2.2.1, q.2.2.2.1, q.2.2.2.2⟩
theorem va_P.last {D : va_G} {cl : List vw_C} {x : Nat × va_E} (h : va_P D cl (ws ++ [x]) H) : va_P D cl [x] H := by
  intro k q hk
  have h0 : k < 1 := (List.getElem?_eq_some_iff.mp hk).1
  rw [show k = 0 by omega] at hk
  cases hk
  exact h ws.length x (by simp)
theorem va_D.last {x : Nat × va_E} (h : va_D A (ws ++ [x])) : va_D A [x] := by
  refine ⟨fun i j p q hi hj _ => ?_, fun k q hk => ?_⟩
  · have h0 : i < 1 := (List.getElem?_eq_some_iff.mp hi).1
    have h1 : j < 1 := (List.getElem?_eq_some_iff.mp hj).1
    omega
  · have h0 : k < 1 := (List.getElem?_eq_some_iff.mp hk).1
    rw [show k = 0 by omega] at hk
    cases hk
    exact h.2 ws.length x (by simp)
theorem nd_of : ∀ l : List Nat, l.Nodup → va_nd l = true
  | [], _ => rfl
  | a :: l, h => by
    rw [List.nodup_cons] at h
    simp [va_nd, h.1, nd_of l h.2]
theorem wl_rest (ws : va_W) (x : Nat × va_E) : (List.range ws.length).map (fun i => (ws ++ [x])[i]?) = ws.map some := by
  apply List.ext_getElem?
  intro i
  rw [List.getElem?_map, List.getElem?_map]
  by_cases h : i < ws.length
  · rw [List.getElem?_range h]
    simp [List.getElem?_append_left h, h]
  · rw [List.getElem?_eq_none (by rw [List.length_range]; omega), List.getElem?_eq_none (by omega)]
    rfl
/-- behind a constructor: the new object is the last of the world -/
theorem mk_back {wsC : va_W} {x : Nat × va_E} {G : va_W → Prop} {mc ms : Nat} {a : Array Value} {st0 : List Value} (hr : va_Run p l e R s m args below meth c H locs cells slots mc ms (F0 m pc ls st0) rest (QcN dC dI G [x] H.size a) (va_A [x] H.size)) (hP : va_P (dC, dI) vwCl (wsC ++ [x]) H) (hD : va_D A (wsC ++ [x])) (hS : va_S A H0 H locs) (hA : ∀ q, H0.size ≤ q → A q)
    (kk : ∀ (w : va_W) (H1 : Heap) (locs1 : List Loc), G w → va_P (dC, dI) vwCl (wsC ++ w) H1 → va_D A (wsC ++ w) → va_S A H0 H1 locs1 → W p l e R s m args below meth c H1 locs1 (cells + mc) (slots + ms) Q (F0 m (pc + 3) ls rest)) : W p l e R s m args below meth c H locs cells slots Q (F0 m pc ls st0) := by
  intro T hT X
  obtain ⟨v, st₀, t, T', L, h0, X', hL, e1, e2, ⟨⟨hv, w, hG, hP1, hD1⟩, hz, hk⟩, st⟩ := hr T hT X
  cases hv
  rw [h0] at hz hk
  have hF : ∀ q, va_A [x] H.size q → A q := va_free hD hS hA [wsC.length] (by simp)
  obtain ⟨hP2, hD2⟩ := va_join (wr := wsC) (w1 := w) hP hD [wsC.length] (List.range wsC.length) (by simp) (wl_rest wsC x) (nd_of _ List.nodup_range) (fun i hi hc => by
    have := List.mem_range.mp hi
    have := List.mem_singleton.mp hc
    omega) hk hF hP1 hD1
  obtain ⟨t2, a1, b1⟩ := kk w T'.heap (locs ++ L) hG (by rw [e1]; exact hP2) hD2
    ⟨Nat.le_trans hS.1 (by rw [e1]; exact hz), fun q h1 h2 => by rw [e1, hk q (Nat.lt_of_lt_of_le h1 hS.1) (fun z => h2 (hF q z))]; exact hS.2.1 q h1 h2, fun q hq => by
      rcases List.mem_append.mp hq with h | h
      · exact hS.2.2 q h
      · exact hF _ (hL q h)⟩ T' rfl X'
  exact ⟨t2, st t2 a1, b1⟩
/-- a new row of numbers: its class is the one of the tables -/
theorem nw_arr {D : va_G} {cl : List vw_C} {atype : ArrayType} {ty : FieldType} {t : Nat} (hexec : p.tables.exec = Jvm.exec) (hb : c.code = cc) (harr : (Cond.arrayClass (newarray.typeOf atype)).before args s = true) (hty : newarray.typeOf atype = ty) (hK : va_K D cl (TYS cT) s) (hP : va_P D cl ws H) (hD : va_D A ws) (hS : va_S A H0 H locs) (hA : ∀ q, H0.size ≤ q → A q) (ht : (TYS cT)[t]? = some (cT t, ty))
    {n : Int32} {N' : Nat} (hn : ¬ n < 0) (hN : n.toNatClampNeg = N') (ha : ∀ cA : ClassId, vp_cell cA (N', .inl (fun _ => 0)) = arrV cA N' (fun _ => defaultValue ty)) (hbytes : N' * componentBytes ty ≤ 536870912) (hcells : cells + 1 ≤ R.cells) (hslots : slots + N' ≤ R.slots) (hdg : decode cc pc = .ok (.newarray atype, 2)) 
    (kk : ∀ (q : Nat) (H1 : Heap), va_P D cl (ws ++ [(q, .inl (cT t, N', .inl (fun _ => 0)))]) H1 → va_D A (ws ++ [(q, .inl (cT t, N', .inl (fun _ => 0)))]) → va_S A H0 H1 locs →
      W p l e R s m args below meth c H1 locs (cells + 1) (slots + N') Q (F0 m (pc + 2) ls (.ref q :: rest))) : W p l e R s m args below meth c H locs cells slots Q (F0 m pc ls (.int n :: rest)) := by
  refine va_newa hexec hb harr hty hK hP hD hS hA ha hn hN hbytes hcells hslots hdg (fun q cA H1 hK1 hP1 hD1 hS1 => ?_)
  have f1 := (hK.2 t _ ht).2
  have f2 := (hK1.2 (TYS cT).length (cA, ty) (by simp)).2
  have : cA = cT t := by
    subst hty
    cases atype <;> exact Option.some.inj (f2.symm.trans f1)
  subst this
  exact kk q H1 hP1 hD1 hS1
end CTOR
abbrev zA (k : ClassId) (n : Nat) : va_E := .inl (k, n, .inl (fun _ => 0))
abbrev wTape (cT : Nat → ClassId) (h q : Nat) : va_W := [(h, .inr (4, [.ref q, .int 0])), (q, zA (cT 1) 160)]
abbrev wPk (cT : Nat → ClassId) (h a b c d : Nat) : va_W := [(h, .inr (2, [.ref a, .ref b, .ref c, .ref d, .int 0, .int 2, .int 0, .int 10, .int 5])), (a, zA (cT 0) 16), (b, zA (cT 0) 16), (c, zA (cT 0) 16), (d, zA (cT 0) 5)]
abbrev wRd (h t q : Nat) : va_W := [(h, .inr (5, [.ref t, .ref q, .int 0, .int 0, .int 3, .int 0, .int 0, .int 0, .int 0]))]
abbrev wSh (cT : Nat → ClassId) (h r : Nat) : va_W := [(h, .inr (3, [.ref r, .int (-1), .int 0])), (r, zA (cT 0) 40)]
abbrev wBs (cT : Nat → ClassId) (h a b c : Nat) : va_W := [(h, .inr (0, [.ref a, .ref b, .ref c, .int 0, .int 0])), (a, zA (cT 0) 16), (b, zA (cT 0) 16), (c, zA (cT 0) 5)]
theorem dc_tp_0 : decode cX4_init 0 = .ok (.aload_n 0, 1) := by decide +kernel
theorem kc_tp_ol : Cond.methodLink RX4 1 objectInit ∈ GW := gw_at 145 (by decide +kernel) (by decide +kernel)
theorem kc_tp_oi : Cond.instanceMethod objectInit ∈ GW := gw_at 138 (by decide +kernel) (by decide +kernel)
set_option maxRecDepth 20000 in
theorem kc_tp_oc : Cond.code objectInit ⟨#[0xb1]⟩ 1 none ∈ GW := gw_at 139 rfl rfl
theorem dc_tp_1 : decode cX4_init 1 = .ok (.invokespecial 1, 3) := by decide +kernel
theorem dc_tp_4 : decode cX4_init 4 = .ok (.aload_n 0, 1) := by decide +kernel
theorem dc_tp_5 : decode cX4_init 5 = .ok (.sipush 160, 3) := by decide +kernel
theorem kc_tp_abyte : Cond.arrayClass .byte ∈ GW := gw_at 156 (by decide +kernel) (by decide +kernel)
theorem dc_tp_8 : decode cX4_init 8 = .ok (.newarray .byte, 2) := by decide +kernel
theorem kc_tp_f9 : Cond.fieldLink RX4 9 (TX4 0).1 (TX4 0).2.1 (TX4 0).2.2.1 ∈ GW := gw_at 146 (by decide +kernel) (by decide +kernel)
theorem dc_tp_10 : decode cX4_init 10 = .ok (.putfield 9, 3) := by decide +kernel
theorem dc_tp_13 : decode cX4_init 13 = .ok (.aload_n 0, 1) := by decide +kernel
theorem dc_tp_14 : decode cX4_init 14 = .ok (.iconst 0, 1) := by decide +kernel
theorem kc_tp_f13 : Cond.fieldLink RX4 13 (TX4 1).1 (TX4 1).2.1 (TX4 1).2.2.1 ∈ GW := gw_at 148 (by decide +kernel) (by decide +kernel)
theorem dc_tp_15 : decode cX4_init 15 = .ok (.putfield 13, 3) := by decide +kernel
theorem dc_tp_18 : decode cX4_init 18 = .ok (.return_, 1) := by decide +kernel
theorem dc_sh_0 : decode cX3_init 0 = .ok (.aload_n 0, 1) := by decide +kernel
theorem kc_sh_ol : Cond.methodLink RX3 3 objectInit ∈ GW := gw_at 341 (by decide +kernel) (by decide +kernel)
theorem kc_sh_oi : Cond.instanceMethod objectInit ∈ GW := gw_at 138 (by decide +kernel) (by decide +kernel)
set_option maxRecDepth 20000 in
theorem kc_sh_oc : Cond.code objectInit ⟨#[0xb1]⟩ 1 none ∈ GW := gw_at 139 rfl rfl
theorem dc_sh_1 : decode cX3_init 1 = .ok (.invokespecial 3, 3) := by decide +kernel
theorem dc_sh_4 : decode cX3_init 4 = .ok (.aload_n 0, 1) := by decide +kernel
theorem dc_sh_5 : decode cX3_init 5 = .ok (.bipush 40, 2) := by decide +kernel
theorem kc_sh_aint : Cond.arrayClass .int ∈ GW := gw_at 218 (by decide +kernel) (by decide +kernel)
theorem dc_sh_7 : decode cX3_init 7 = .ok (.newarray .int, 2) := by decide +kernel
theorem kc_sh_f9 : Cond.fieldLink RX3 9 (TX3 0).1 (TX3 0).2.1 (TX3 0).2.2.1 ∈ GW := gw_at 342 (by decide +kernel) (by decide +kernel)
theorem dc_sh_9 : decode cX3_init 9 = .ok (.putfield 9, 3) := by decide +kernel
theorem dc_sh_12 : decode cX3_init 12 = .ok (.aload_n 0, 1) := by decide +kernel
theorem dc_sh_13 : decode cX3_init 13 = .ok (.iconst (-1), 1) := by decide +kernel
theorem kc_sh_f15 : Cond.fieldLink RX3 15 (TX3 1).1 (TX3 1).2.1 (TX3 1).2.2.1 ∈ GW := gw_at 344 (by decide +kernel) (by decide +kernel)
theorem dc_sh_14 : decode cX3_init 14 = .ok (.putfield 15, 3) := by decide +kernel
theorem dc_sh_17 : decode cX3_init 17 = .ok (.aload_n 0, 1) := by decide +kernel
theorem dc_sh_18 : decode cX3_init 18 = .ok (.iconst 0, 1) := by decide +kernel
theorem kc_sh_f19 : Cond.fieldLink RX3 19 (TX3 2).1 (TX3 2).2.1 (TX3 2).2.2.1 ∈ GW := gw_at 346 (by decide +kernel) (by decide +kernel)
theorem dc_sh_19 : decode cX3_init 19 = .ok (.putfield 19, 3) := by decide +kernel
theorem dc_sh_22 : decode cX3_init 22 = .ok (.return_, 1) := by decide +kernel
theorem dc_bs_0 : decode cX0_init 0 = .ok (.aload_n 0, 1) := by decide +kernel
theorem kc_bs_ol : Cond.methodLink RX0 3 objectInit ∈ GW := gw_at 300 (by decide +kernel) (by decide +kernel)
theorem kc_bs_oi : Cond.instanceMethod objectInit ∈ GW := gw_at 138 (by decide +kernel) (by decide +kernel)
set_option maxRecDepth 20000 in
theorem kc_bs_oc : Cond.code objectInit ⟨#[0xb1]⟩ 1 none ∈ GW := gw_at 139 rfl rfl
theorem dc_bs_1 : decode cX0_init 1 = .ok (.invokespecial 3, 3) := by decide +kernel
theorem dc_bs_4 : decode cX0_init 4 = .ok (.aload_n 0, 1) := by decide +kernel
theorem dc_bs_5 : decode cX0_init 5 = .ok (.bipush 16, 2) := by decide +kernel
theorem kc_bs_aint : Cond.arrayClass .int ∈ GW := gw_at 218 (by decide +kernel) (by decide +kernel)
theorem dc_bs_7 : decode cX0_init 7 = .ok (.newarray .int, 2) := by decide +kernel
theorem kc_bs_f9 : Cond.fieldLink RX0 9 (TX0 0).1 (TX0 0).2.1 (TX0 0).2.2.1 ∈ GW := gw_at 301 (by decide +kernel) (by decide +kernel)
theorem dc_bs_9 : decode cX0_init 9 = .ok (.putfield 9, 3) := by decide +kernel
theorem dc_bs_12 : decode cX0_init 12 = .ok (.aload_n 0, 1) := by decide +kernel
theorem dc_bs_13 : decode cX0_init 13 = .ok (.bipush 16, 2) := by decide +kernel
theorem dc_bs_15 : decode cX0_init 15 = .ok (.newarray .int, 2) := by decide +kernel
theorem kc_bs_f15 : Cond.fieldLink RX0 15 (TX0 1).1 (TX0 1).2.1 (TX0 1).2.2.1 ∈ GW := gw_at 302 (by decide +kernel) (by decide +kernel)
theorem dc_bs_17 : decode cX0_init 17 = .ok (.putfield 15, 3) := by decide +kernel
theorem dc_bs_20 : decode cX0_init 20 = .ok (.aload_n 0, 1) := by decide +kernel
theorem dc_bs_21 : decode cX0_init 21 = .ok (.iconst 5, 1) := by decide +kernel
theorem dc_bs_22 : decode cX0_init 22 = .ok (.newarray .int, 2) := by decide +kernel
theorem kc_bs_f18 : Cond.fieldLink RX0 18 (TX0 2).1 (TX0 2).2.1 (TX0 2).2.2.1 ∈ GW := gw_at 303 (by decide +kernel) (by decide +kernel)
theorem dc_bs_24 : decode cX0_init 24 = .ok (.putfield 18, 3) := by decide +kernel
theorem dc_bs_27 : decode cX0_init 27 = .ok (.aload_n 0, 1) := by decide +kernel
theorem dc_bs_28 : decode cX0_init 28 = .ok (.iconst 0, 1) := by decide +kernel
theorem kc_bs_f21 : Cond.fieldLink RX0 21 (TX0 3).1 (TX0 3).2.1 (TX0 3).2.2.1 ∈ GW := gw_at 304 (by decide +kernel) (by decide +kernel)
theorem dc_bs_29 : decode cX0_init 29 = .ok (.putfield 21, 3) := by decide +kernel
theorem dc_bs_32 : decode cX0_init 32 = .ok (.aload_n 0, 1) := by decide +kernel
theorem dc_bs_33 : decode cX0_init 33 = .ok (.iconst 0, 1) := by decide +kernel
theorem kc_bs_f25 : Cond.fieldLink RX0 25 (TX0 4).1 (TX0 4).2.1 (TX0 4).2.2.1 ∈ GW := gw_at 305 (by decide +kernel) (by decide +kernel)
theorem dc_bs_34 : decode cX0_init 34 = .ok (.putfield 25, 3) := by decide +kernel
theorem dc_bs_37 : decode cX0_init 37 = .ok (.return_, 1) := by decide +kernel
theorem dc_rd_0 : decode cX5_init 0 = .ok (.aload_n 0, 1) := by decide +kernel
theorem kc_rd_ol : Cond.methodLink RX5 3 objectInit ∈ GW := gw_at 224 (by decide +kernel) (by decide +kernel)
theorem kc_rd_oi : Cond.instanceMethod objectInit ∈ GW := gw_at 138 (by decide +kernel) (by decide +kernel)
set_option maxRecDepth 20000 in
theorem kc_rd_oc : Cond.code objectInit ⟨#[0xb1]⟩ 1 none ∈ GW := gw_at 139 rfl rfl
theorem dc_rd_1 : decode cX5_init 1 = .ok (.invokespecial 3, 3) := by decide +kernel
theorem dc_rd_4 : decode cX5_init 4 = .ok (.aload_n 0, 1) := by decide +kernel
theorem dc_rd_5 : decode cX5_init 5 = .ok (.iconst 0, 1) := by decide +kernel
theorem kc_rd_f9 : Cond.fieldLink RX5 9 (TX5 2).1 (TX5 2).2.1 (TX5 2).2.2.1 ∈ GW := gw_at 227 (by decide +kernel) (by decide +kernel)
theorem dc_rd_6 : decode cX5_init 6 = .ok (.putfield 9, 3) := by decide +kernel
theorem dc_rd_9 : decode cX5_init 9 = .ok (.aload_n 0, 1) := by decide +kernel
theorem dc_rd_10 : decode cX5_init 10 = .ok (.iconst 0, 1) := by decide +kernel
theorem kc_rd_f15 : Cond.fieldLink RX5 15 (TX5 3).1 (TX5 3).2.1 (TX5 3).2.2.1 ∈ GW := gw_at 229 (by decide +kernel) (by decide +kernel)
theorem dc_rd_11 : decode cX5_init 11 = .ok (.putfield 15, 3) := by decide +kernel
theorem dc_rd_14 : decode cX5_init 14 = .ok (.aload_n 0, 1) := by decide +kernel
theorem dc_rd_15 : decode cX5_init 15 = .ok (.iconst 3, 1) := by decide +kernel
theorem kc_rd_f18 : Cond.fieldLink RX5 18 (TX5 4).1 (TX5 4).2.1 (TX5 4).2.2.1 ∈ GW := gw_at 231 (by decide +kernel) (by decide +kernel)
theorem dc_rd_16 : decode cX5_init 16 = .ok (.putfield 18, 3) := by decide +kernel
theorem dc_rd_19 : decode cX5_init 19 = .ok (.aload_n 0, 1) := by decide +kernel
theorem dc_rd_20 : decode cX5_init 20 = .ok (.iconst 0, 1) := by decide +kernel
theorem kc_rd_f21 : Cond.fieldLink RX5 21 (TX5 5).1 (TX5 5).2.1 (TX5 5).2.2.1 ∈ GW := gw_at 232 (by decide +kernel) (by decide +kernel)
theorem dc_rd_21 : decode cX5_init 21 = .ok (.putfield 21, 3) := by decide +kernel
theorem dc_rd_24 : decode cX5_init 24 = .ok (.aload_n 0, 1) := by decide +kernel
theorem dc_rd_25 : decode cX5_init 25 = .ok (.iconst 0, 1) := by decide +kernel
theorem kc_rd_f24 : Cond.fieldLink RX5 24 (TX5 6).1 (TX5 6).2.1 (TX5 6).2.2.1 ∈ GW := gw_at 233 (by decide +kernel) (by decide +kernel)
theorem dc_rd_26 : decode cX5_init 26 = .ok (.putfield 24, 3) := by decide +kernel
theorem dc_rd_29 : decode cX5_init 29 = .ok (.aload_n 0, 1) := by decide +kernel
theorem dc_rd_30 : decode cX5_init 30 = .ok (.iconst 0, 1) := by decide +kernel
theorem kc_rd_f27 : Cond.fieldLink RX5 27 (TX5 7).1 (TX5 7).2.1 (TX5 7).2.2.1 ∈ GW := gw_at 234 (by decide +kernel) (by decide +kernel)
theorem dc_rd_31 : decode cX5_init 31 = .ok (.putfield 27, 3) := by decide +kernel
theorem dc_rd_34 : decode cX5_init 34 = .ok (.aload_n 0, 1) := by decide +kernel
theorem dc_rd_35 : decode cX5_init 35 = .ok (.iconst 0, 1) := by decide +kernel
theorem kc_rd_f30 : Cond.fieldLink RX5 30 (TX5 8).1 (TX5 8).2.1 (TX5 8).2.2.1 ∈ GW := gw_at 235 (by decide +kernel) (by decide +kernel)
theorem dc_rd_36 : decode cX5_init 36 = .ok (.putfield 30, 3) := by decide +kernel
theorem dc_rd_39 : decode cX5_init 39 = .ok (.aload_n 0, 1) := by decide +kernel
theorem dc_rd_40 : decode cX5_init 40 = .ok (.aload_n 1, 1) := by decide +kernel
theorem kc_rd_f33 : Cond.fieldLink RX5 33 (TX5 0).1 (TX5 0).2.1 (TX5 0).2.2.1 ∈ GW := gw_at 225 (by decide +kernel) (by decide +kernel)
theorem dc_rd_41 : decode cX5_init 41 = .ok (.putfield 33, 3) := by decide +kernel
theorem dc_rd_44 : decode cX5_init 44 = .ok (.aload_n 0, 1) := by decide +kernel
theorem dc_rd_45 : decode cX5_init 45 = .ok (.aload_n 2, 1) := by decide +kernel
theorem kc_rd_f37 : Cond.fieldLink RX5 37 (TX5 1).1 (TX5 1).2.1 (TX5 1).2.2.1 ∈ GW := gw_at 226 (by decide +kernel) (by decide +kernel)
theorem dc_rd_46 : decode cX5_init 46 = .ok (.putfield 37, 3) := by decide +kernel
theorem dc_rd_49 : decode cX5_init 49 = .ok (.return_, 1) := by decide +kernel
section CTORS
variable {cT dC : Nat → ClassId} {dI : Nat → Nat → Nat}
set_option maxHeartbeats 4000000 in
set_option maxRecDepth 20000 in
theorem n_tape (l : Launch) (h0 sz : Nat) : Met l yX4_init (Cond.code yX4_init cX4_init 1 none :: GW) (rmN 1 1 160) (PcN cT dC dI [.ref h0] [(h0, .inr (4, [.null, .int 0]))] sz) (QcN dC dI (fun w => ∃ q, w = wTape cT h0 q) [(h0, .inr (4, [.null, .int 0]))] sz) 1 160 (va_A [(h0, .inr (4, [.null, .int 0]))] sz) := by
  refine Met.ofW (cc := cX4_init) (maxL := 1) (ret := none) (by decide) rfl ?_
  intro p e s m args below meth c s₁ B hml hv
  obtain ⟨rfl, hWK, hsz, hP, hD0⟩ := hv
  have hx := B.exec
  have hb := B.bytes
  have hr := B.returns
  have hts0 := atoms_spec (ws := Cond.code yX4_init cX4_init 1 none :: GW) B.pre
  have hts : ∀ w ∈ GW, w.before _ s = true := fun w hw => hts0 w (List.mem_cons_of_mem _ hw)
  have hown : s.vm.findClass RX4 = some m.cls := findClass_of_methodNamed B.named
  have hlocks := B.notSynchronized
  have hin : meth.name = "<init>" := (name_of_methodNamed B.named B.method).1
  have hK := hWK.1
  subst hsz
  have hD := hD0.self (sz := s.heap.size)
  have hA : ∀ q : Nat, s.heap.size ≤ q → va_A [(h0, .inr (4, [.null, .int 0]))] s.heap.size q := fun q h => Or.inr h
  have hS : va_S (va_A [(h0, .inr (4, [.null, .int 0]))] s.heap.size) s.heap s.heap [] := va_S.rf
  have hl := lv_entry [.ref h0] (n := 1) (Nat.le_of_ble_eq_true rfl)
  rw [lg_entry_eq]
  generalize (lg_sl [.ref h0] ++ List.replicate (1 - (lg_sl [.ref h0]).length) Slot.unset).toArray = ls at hl ⊢
  have hl : lv_has ls 1 [(0, .ref h0)] := hl
  refine lv_aload_n hx hb dc_tp_0 rfl (lv_at hl 0 rfl) ?_
  refine W.objInit hx hb hown (hts _ kc_tp_ol) (hts _ kc_tp_oi) (hts _ kc_tp_oc) rfl (by rw [hml]; exact hl.1) rfl dc_tp_1 (Nat.le_of_ble_eq_true rfl) (Nat.le_of_ble_eq_true rfl) ?_
  refine W.eq (g2 := F0 m 4 ls []) rfl ?_
  refine lv_aload_n hx hb dc_tp_4 rfl (lv_at hl 0 rfl) ?_
  refine lv_sipush (v := 160) hx hb dc_tp_5 (by decide) ?_
  refine nw_arr (atype := .byte) (t := 1) hx hb (hts _ kc_tp_abyte) rfl hK hP hD hS hA rfl (N' := 160) (by decide) (by decide) (fun _ => rfl) (Nat.le_of_ble_eq_true rfl) (Nat.le_of_ble_eq_true rfl) (Nat.le_of_ble_eq_true rfl) dc_tp_8 (fun q1 H hP hD hS => ?_)
  refine va_putF hx hb hts (cl_ok 4 _ rfl).1 tyX4 tyX4_ok nmX4 hown hK hP hD hS 0 rfl rfl 0 (by decide) (hts _ kc_tp_f9) (fun _ h => h) rfl hin rfl rfl rfl rfl (Nat.le_of_ble_eq_true rfl) dc_tp_10 (fun H locs hP hD hS => ?_)
  refine lv_aload_n hx hb dc_tp_13 rfl (lv_at hl 0 rfl) ?_
  refine lv_iconst (v := 0) hx hb dc_tp_14 (by decide) ?_
  refine va_put hx hb hts (cl_ok 4 _ rfl).1 tyX4 tyX4_ok nmX4 hown hK hP hD hS 0 rfl rfl 1 (by decide) (hts _ kc_tp_f13) (fun _ h => h) rfl rfl rfl rfl (Nat.le_of_ble_eq_true rfl) dc_tp_15 (fun H locs hP hD hS => ?_)
  refine W.widen (k := 1) (n := 160) (Nat.le_of_ble_eq_true rfl) (Nat.le_of_ble_eq_true rfl) ?_
  exact W.vret hx hb hr (fun t ht _ => ⟨⟨rfl, _, ⟨q1, rfl⟩, by rw [ht]; exact hP, hD⟩, hS.F ht⟩) hS.2.2 dc_tp_18 hlocks
set_option maxHeartbeats 4000000 in
set_option maxRecDepth 20000 in
theorem n_sheet (l : Launch) (h0 sz : Nat) : Met l yX3_init (Cond.code yX3_init cX3_init 1 none :: GW) (rmN 1 1 40) (PcN cT dC dI [.ref h0] [(h0, .inr (3, [.null, .int 0, .int 0]))] sz) (QcN dC dI (fun w => ∃ r, w = wSh cT h0 r) [(h0, .inr (3, [.null, .int 0, .int 0]))] sz) 1 40 (va_A [(h0, .inr (3, [.null, .int 0, .int 0]))] sz) := by
  refine Met.ofW (cc := cX3_init) (maxL := 1) (ret := none) (by decide) rfl ?_
  intro p e s m args below meth c s₁ B hml hv
  obtain ⟨rfl, hWK, hsz, hP, hD0⟩ := hv
  have hx := B.exec
  have hb := B.bytes
  have hr := B.returns
  have hts0 := atoms_spec (ws := Cond.code yX3_init cX3_init 1 none :: GW) B.pre
  have hts : ∀ w ∈ GW, w.before _ s = true := fun w hw => hts0 w (List.mem_cons_of_mem _ hw)
  have hown : s.vm.findClass RX3 = some m.cls := findClass_of_methodNamed B.named
  have hlocks := B.notSynchronized
  have hin : meth.name = "<init>" := (name_of_methodNamed B.named B.method).1
  have hK := hWK.1
  subst hsz
  have hD := hD0.self (sz := s.heap.size)
  have hA : ∀ q : Nat, s.heap.size ≤ q → va_A [(h0, .inr (3, [.null, .int 0, .int 0]))] s.heap.size q := fun q h => Or.inr h
  have hS : va_S (va_A [(h0, .inr (3, [.null, .int 0, .int 0]))] s.heap.size) s.heap s.heap [] := va_S.rf
  have hl := lv_entry [.ref h0] (n := 1) (Nat.le_of_ble_eq_true rfl)
  rw [lg_entry_eq]
  generalize (lg_sl [.ref h0] ++ List.replicate (1 - (lg_sl [.ref h0]).length) Slot.unset).toArray = ls at hl ⊢
  have hl : lv_has ls 1 [(0, .ref h0)] := hl
  refine lv_aload_n hx hb dc_sh_0 rfl (lv_at hl 0 rfl) ?_
  refine W.objInit hx hb hown (hts _ kc_sh_ol) (hts _ kc_sh_oi) (hts _ kc_sh_oc) rfl (by rw [hml]; exact hl.1) rfl dc_sh_1 (Nat.le_of_ble_eq_true rfl) (Nat.le_of_ble_eq_true rfl) ?_
  refine W.eq (g2 := F0 m 4 ls []) rfl ?_
  refine lv_aload_n hx hb dc_sh_4 rfl (lv_at hl 0 rfl) ?_
  refine lv_bipush (v := 40) hx hb dc_sh_5 (by decide) ?_
  refine nw_arr (atype := .int) (t := 0) hx hb (hts _ kc_sh_aint) rfl hK hP hD hS hA rfl (N' := 40) (by decide) (by decide) (fun _ => rfl) (Nat.le_of_ble_eq_true rfl) (Nat.le_of_ble_eq_true rfl) (Nat.le_of_ble_eq_true rfl) dc_sh_7 (fun q1 H hP hD hS => ?_)
  refine va_putF hx hb hts (cl_ok 3 _ rfl).1 tyX3 tyX3_ok nmX3 hown hK hP hD hS 0 rfl rfl 0 (by decide) (hts _ kc_sh_f9) (fun _ h => h) rfl hin rfl rfl rfl rfl (Nat.le_of_ble_eq_true rfl) dc_sh_9 (fun H locs hP hD hS => ?_)
  refine lv_aload_n hx hb dc_sh_12 rfl (lv_at hl 0 rfl) ?_
  refine lv_iconst (v := (-1)) hx hb dc_sh_13 (by decide) ?_
  refine va_put hx hb hts (cl_ok 3 _ rfl).1 tyX3 tyX3_ok nmX3 hown hK hP hD hS 0 rfl rfl 1 (by decide) (hts _ kc_sh_f15) (fun _ h => h) rfl rfl rfl rfl (Nat.le_of_ble_eq_true rfl) dc_sh_14 (fun H locs hP hD hS => ?_)
  refine lv_aload_n hx hb dc_sh_17 rfl (lv_at hl 0 rfl) ?_
  refine lv_iconst (v := 0) hx hb dc_sh_18 (by decide) ?_
  refine va_put hx hb hts (cl_ok 3 _ rfl).1 tyX3 tyX3_ok nmX3 hown hK hP hD hS 0 rfl rfl 2 (by decide) (hts _ kc_sh_f19) (fun _ h => h) rfl rfl rfl rfl (Nat.le_of_ble_eq_true rfl) dc_sh_19 (fun H locs hP hD hS => ?_)
  refine W.widen (k := 1) (n := 40) (Nat.le_of_ble_eq_true rfl) (Nat.le_of_ble_eq_true rfl) ?_
  exact W.vret hx hb hr (fun t ht _ => ⟨⟨rfl, _, ⟨q1, rfl⟩, by rw [ht]; exact hP, hD⟩, hS.F ht⟩) hS.2.2 dc_sh_22 hlocks
set_option maxHeartbeats 4000000 in
set_option maxRecDepth 20000 in
theorem n_best (l : Launch) (h0 sz : Nat) : Met l yX0_init (Cond.code yX0_init cX0_init 1 none :: GW) (rmN 1 3 37) (PcN cT dC dI [.ref h0] [(h0, .inr (0, [.null, .null, .null, .int 0, .int 0]))] sz) (QcN dC dI (fun w => ∃ a b c, w = wBs cT h0 a b c) [(h0, .inr (0, [.null, .null, .null, .int 0, .int 0]))] sz) 3 37 (va_A [(h0, .inr (0, [.null, .null, .null, .int 0, .int 0]))] sz) := by
  refine Met.ofW (cc := cX0_init) (maxL := 1) (ret := none) (by decide) rfl ?_
  intro p e s m args below meth c s₁ B hml hv
  obtain ⟨rfl, hWK, hsz, hP, hD0⟩ := hv
  have hx := B.exec
  have hb := B.bytes
  have hr := B.returns
  have hts0 := atoms_spec (ws := Cond.code yX0_init cX0_init 1 none :: GW) B.pre
  have hts : ∀ w ∈ GW, w.before _ s = true := fun w hw => hts0 w (List.mem_cons_of_mem _ hw)
  have hown : s.vm.findClass RX0 = some m.cls := findClass_of_methodNamed B.named
  have hlocks := B.notSynchronized
  have hin : meth.name = "<init>" := (name_of_methodNamed B.named B.method).1
  have hK := hWK.1
  subst hsz
  have hD := hD0.self (sz := s.heap.size)
  have hA : ∀ q : Nat, s.heap.size ≤ q → va_A [(h0, .inr (0, [.null, .null, .null, .int 0, .int 0]))] s.heap.size q := fun q h => Or.inr h
  have hS : va_S (va_A [(h0, .inr (0, [.null, .null, .null, .int 0, .int 0]))] s.heap.size) s.heap s.heap [] := va_S.rf
  have hl := lv_entry [.ref h0] (n := 1) (Nat.le_of_ble_eq_true rfl)
  rw [lg_entry_eq]
  generalize (lg_sl [.ref h0] ++ List.replicate (1 - (lg_sl [.ref h0]).length) Slot.unset).toArray = ls at hl ⊢
  have hl : lv_has ls 1 [(0, .ref h0)] := hl
  refine lv_aload_n hx hb dc_bs_0 rfl (lv_at hl 0 rfl) ?_
  refine W.objInit hx hb hown (hts _ kc_bs_ol) (hts _ kc_bs_oi) (hts _ kc_bs_oc) rfl (by rw [hml]; exact hl.1) rfl dc_bs_1 (Nat.le_of_ble_eq_true rfl) (Nat.le_of_ble_eq_true rfl) ?_
  refine W.eq (g2 := F0 m 4 ls []) rfl ?_
  refine lv_aload_n hx hb dc_bs_4 rfl (lv_at hl 0 rfl) ?_
  refine lv_bipush (v := 16) hx hb dc_bs_5 (by decide) ?_
  refine nw_arr (atype := .int) (t := 0) hx hb (hts _ kc_bs_aint) rfl hK hP hD hS hA rfl (N' := 16) (by decide) (by decide) (fun _ => rfl) (Nat.le_of_ble_eq_true rfl) (Nat.le_of_ble_eq_true rfl) (Nat.le_of_ble_eq_true rfl) dc_bs_7 (fun q1 H hP hD hS => ?_)
  refine va_putF hx hb hts (cl_ok 0 _ rfl).1 tyX0 tyX0_ok nmX0 hown hK hP hD hS 0 rfl rfl 0 (by decide) (hts _ kc_bs_f9) (fun _ h => h) rfl hin rfl rfl rfl rfl (Nat.le_of_ble_eq_true rfl) dc_bs_9 (fun H locs hP hD hS => ?_)
  refine lv_aload_n hx hb dc_bs_12 rfl (lv_at hl 0 rfl) ?_
  refine lv_bipush (v := 16) hx hb dc_bs_13 (by decide) ?_
  refine nw_arr (atype := .int) (t := 0) hx hb (hts _ kc_bs_aint) rfl hK hP hD hS hA rfl (N' := 16) (by decide) (by decide) (fun _ => rfl) (Nat.le_of_ble_eq_true rfl) (Nat.le_of_ble_eq_true rfl) (Nat.le_of_ble_eq_true rfl) dc_bs_15 (fun q2 H hP hD hS => ?_)
  refine va_putF hx hb hts (cl_ok 0 _ rfl).1 tyX0 tyX0_ok nmX0 hown hK hP hD hS 0 rfl rfl 1 (by decide) (hts _ kc_bs_f15) (fun _ h => h) rfl hin rfl rfl rfl rfl (Nat.le_of_ble_eq_true rfl) dc_bs_17 (fun H locs hP hD hS => ?_)
  refine lv_aload_n hx hb dc_bs_20 rfl (lv_at hl 0 rfl) ?_
  refine lv_iconst (v := 5) hx hb dc_bs_21 (by decide) ?_
  refine nw_arr (atype := .int) (t := 0) hx hb (hts _ kc_bs_aint) rfl hK hP hD hS hA rfl (N' := 5) (by decide) (by decide) (fun _ => rfl) (Nat.le_of_ble_eq_true rfl) (Nat.le_of_ble_eq_true rfl) (Nat.le_of_ble_eq_true rfl) dc_bs_22 (fun q3 H hP hD hS => ?_)
  refine va_putF hx hb hts (cl_ok 0 _ rfl).1 tyX0 tyX0_ok nmX0 hown hK hP hD hS 0 rfl rfl 2 (by decide) (hts _ kc_bs_f18) (fun _ h => h) rfl hin rfl rfl rfl rfl (Nat.le_of_ble_eq_true rfl) dc_bs_24 (fun H locs hP hD hS => ?_)
  refine lv_aload_n hx hb dc_bs_27 rfl (lv_at hl 0 rfl) ?_
  refine lv_iconst (v := 0) hx hb dc_bs_28 (by decide) ?_
  refine va_put hx hb hts (cl_ok 0 _ rfl).1 tyX0 tyX0_ok nmX0 hown hK hP hD hS 0 rfl rfl 3 (by decide) (hts _ kc_bs_f21) (fun _ h => h) rfl rfl rfl rfl (Nat.le_of_ble_eq_true rfl) dc_bs_29 (fun H locs hP hD hS => ?_)
  refine lv_aload_n hx hb dc_bs_32 rfl (lv_at hl 0 rfl) ?_
  refine lv_iconst (v := 0) hx hb dc_bs_33 (by decide) ?_
  refine va_put hx hb hts (cl_ok 0 _ rfl).1 tyX0 tyX0_ok nmX0 hown hK hP hD hS 0 rfl rfl 4 (by decide) (hts _ kc_bs_f25) (fun _ h => h) rfl rfl rfl rfl (Nat.le_of_ble_eq_true rfl) dc_bs_34 (fun H locs hP hD hS => ?_)
  refine W.widen (k := 3) (n := 37) (Nat.le_of_ble_eq_true rfl) (Nat.le_of_ble_eq_true rfl) ?_
  exact W.vret hx hb hr (fun t ht _ => ⟨⟨rfl, _, ⟨q1, q2, q3, rfl⟩, by rw [ht]; exact hP, hD⟩, hS.F ht⟩) hS.2.2 dc_bs_37 hlocks
set_option maxHeartbeats 4000000 in
set_option maxRecDepth 20000 in
theorem n_reader (l : Launch) (a1 a2 : Nat) (h0 sz : Nat) : Met l yX5_init (Cond.code yX5_init cX5_init 3 none :: GW) (rmN 1 0 0) (PcN cT dC dI [.ref h0, .ref a1, .ref a2] [(h0, .inr (5, [.null, .null, .int 0, .int 0, .int 0, .int 0, .int 0, .int 0, .int 0]))] sz) (QcN dC dI (fun w => w = wRd h0 a1 a2) [(h0, .inr (5, [.null, .null, .int 0, .int 0, .int 0, .int 0, .int 0, .int 0, .int 0]))] sz) 0 0 (va_A [(h0, .inr (5, [.null, .null, .int 0, .int 0, .int 0, .int 0, .int 0, .int 0, .int 0]))] sz) := by
  refine Met.ofW (cc := cX5_init) (maxL := 3) (ret := none) (by decide) rfl ?_
  intro p e s m args below meth c s₁ B hml hv
  obtain ⟨rfl, hWK, hsz, hP, hD0⟩ := hv
  have hx := B.exec
  have hb := B.bytes
  have hr := B.returns
  have hts0 := atoms_spec (ws := Cond.code yX5_init cX5_init 3 none :: GW) B.pre
  have hts : ∀ w ∈ GW, w.before _ s = true := fun w hw => hts0 w (List.mem_cons_of_mem _ hw)
  have hown : s.vm.findClass RX5 = some m.cls := findClass_of_methodNamed B.named
  have hlocks := B.notSynchronized
  have hin : meth.name = "<init>" := (name_of_methodNamed B.named B.method).1
  have hK := hWK.1
  subst hsz
  have hD := hD0.self (sz := s.heap.size)
  have hA : ∀ q : Nat, s.heap.size ≤ q → va_A [(h0, .inr (5, [.null, .null, .int 0, .int 0, .int 0, .int 0, .int 0, .int 0, .int 0]))] s.heap.size q := fun q h => Or.inr h
  have hS : va_S (va_A [(h0, .inr (5, [.null, .null, .int 0, .int 0, .int 0, .int 0, .int 0, .int 0, .int 0]))] s.heap.size) s.heap s.heap [] := va_S.rf
  have hl := lv_entry [.ref h0, .ref a1, .ref a2] (n := 3) (Nat.le_of_ble_eq_true rfl)
  rw [lg_entry_eq]
  generalize (lg_sl [.ref h0, .ref a1, .ref a2] ++ List.replicate (3 - (lg_sl [.ref h0, .ref a1, .ref a2]).length) Slot.unset).toArray = ls at hl ⊢
  have hl : lv_has ls 3 [(0, .ref h0), (1, .ref a1), (2, .ref a2)] := hl
  refine lv_aload_n hx hb dc_rd_0 rfl (lv_at hl 0 rfl) ?_
  refine W.objInit hx hb hown (hts _ kc_rd_ol) (hts _ kc_rd_oi) (hts _ kc_rd_oc) rfl (by rw [hml]; exact hl.1) rfl dc_rd_1 (Nat.le_of_ble_eq_true rfl) (Nat.le_of_ble_eq_true rfl) ?_
  refine W.eq (g2 := F0 m 4 ls []) rfl ?_
  refine lv_aload_n hx hb dc_rd_4 rfl (lv_at hl 0 rfl) ?_
  refine lv_iconst (v := 0) hx hb dc_rd_5 (by decide) ?_
  refine va_put hx hb hts (cl_ok 5 _ rfl).1 tyX5 tyX5_ok nmX5 hown hK hP hD hS 0 rfl rfl 2 (by decide) (hts _ kc_rd_f9) (fun _ h => h) rfl rfl rfl rfl (Nat.le_of_ble_eq_true rfl) dc_rd_6 (fun H locs hP hD hS => ?_)
  refine lv_aload_n hx hb dc_rd_9 rfl (lv_at hl 0 rfl) ?_
  refine lv_iconst (v := 0) hx hb dc_rd_10 (by decide) ?_
  refine va_put hx hb hts (cl_ok 5 _ rfl).1 tyX5 tyX5_ok nmX5 hown hK hP hD hS 0 rfl rfl 3 (by decide) (hts _ kc_rd_f15) (fun _ h => h) rfl rfl rfl rfl (Nat.le_of_ble_eq_true rfl) dc_rd_11 (fun H locs hP hD hS => ?_)
  refine lv_aload_n hx hb dc_rd_14 rfl (lv_at hl 0 rfl) ?_
  refine lv_iconst (v := 3) hx hb dc_rd_15 (by decide) ?_
  refine va_put hx hb hts (cl_ok 5 _ rfl).1 tyX5 tyX5_ok nmX5 hown hK hP hD hS 0 rfl rfl 4 (by decide) (hts _ kc_rd_f18) (fun _ h => h) rfl rfl rfl rfl (Nat.le_of_ble_eq_true rfl) dc_rd_16 (fun H locs hP hD hS => ?_)
  refine lv_aload_n hx hb dc_rd_19 rfl (lv_at hl 0 rfl) ?_
  refine lv_iconst (v := 0) hx hb dc_rd_20 (by decide) ?_
  refine va_put hx hb hts (cl_ok 5 _ rfl).1 tyX5 tyX5_ok nmX5 hown hK hP hD hS 0 rfl rfl 5 (by decide) (hts _ kc_rd_f21) (fun _ h => h) rfl rfl rfl rfl (Nat.le_of_ble_eq_true rfl) dc_rd_21 (fun H locs hP hD hS => ?_)
  refine lv_aload_n hx hb dc_rd_24 rfl (lv_at hl 0 rfl) ?_
  refine lv_iconst (v := 0) hx hb dc_rd_25 (by decide) ?_
  refine va_put hx hb hts (cl_ok 5 _ rfl).1 tyX5 tyX5_ok nmX5 hown hK hP hD hS 0 rfl rfl 6 (by decide) (hts _ kc_rd_f24) (fun _ h => h) rfl rfl rfl rfl (Nat.le_of_ble_eq_true rfl) dc_rd_26 (fun H locs hP hD hS => ?_)
  refine lv_aload_n hx hb dc_rd_29 rfl (lv_at hl 0 rfl) ?_
  refine lv_iconst (v := 0) hx hb dc_rd_30 (by decide) ?_
  refine va_put hx hb hts (cl_ok 5 _ rfl).1 tyX5 tyX5_ok nmX5 hown hK hP hD hS 0 rfl rfl 7 (by decide) (hts _ kc_rd_f27) (fun _ h => h) rfl rfl rfl rfl (Nat.le_of_ble_eq_true rfl) dc_rd_31 (fun H locs hP hD hS => ?_)
  refine lv_aload_n hx hb dc_rd_34 rfl (lv_at hl 0 rfl) ?_
  refine lv_iconst (v := 0) hx hb dc_rd_35 (by decide) ?_
  refine va_put hx hb hts (cl_ok 5 _ rfl).1 tyX5 tyX5_ok nmX5 hown hK hP hD hS 0 rfl rfl 8 (by decide) (hts _ kc_rd_f30) (fun _ h => h) rfl rfl rfl rfl (Nat.le_of_ble_eq_true rfl) dc_rd_36 (fun H locs hP hD hS => ?_)
  refine lv_aload_n hx hb dc_rd_39 rfl (lv_at hl 0 rfl) ?_
  refine lv_aload_n hx hb dc_rd_40 rfl (lv_at hl 1 rfl) ?_
  refine va_putF hx hb hts (cl_ok 5 _ rfl).1 tyX5 tyX5_ok nmX5 hown hK hP hD hS 0 rfl rfl 0 (by decide) (hts _ kc_rd_f33) (fun _ h => h) rfl hin rfl rfl rfl rfl (Nat.le_of_ble_eq_true rfl) dc_rd_41 (fun H locs hP hD hS => ?_)
  refine lv_aload_n hx hb dc_rd_44 rfl (lv_at hl 0 rfl) ?_
  refine lv_aload_n hx hb dc_rd_45 rfl (lv_at hl 2 rfl) ?_
  refine va_putF hx hb hts (cl_ok 5 _ rfl).1 tyX5 tyX5_ok nmX5 hown hK hP hD hS 0 rfl rfl 1 (by decide) (hts _ kc_rd_f37) (fun _ h => h) rfl hin rfl rfl rfl rfl (Nat.le_of_ble_eq_true rfl) dc_rd_46 (fun H locs hP hD hS => ?_)
  refine W.widen (k := 0) (n := 0) (Nat.le_of_ble_eq_true rfl) (Nat.le_of_ble_eq_true rfl) ?_
  exact W.vret hx hb hr (fun t ht _ => ⟨⟨rfl, _, rfl, by rw [ht]; exact hP, hD⟩, hS.F ht⟩) hS.2.2 dc_rd_49 hlocks
end CTORS
