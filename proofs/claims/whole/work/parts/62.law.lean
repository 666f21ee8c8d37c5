/-! THE CLAIM OUT OF ONE WALK OF THE LAW'S BODY. Your part is whole_start (and what it stands on); all else here is the same for every law, but numbers. -/
def R_law : String := "CellPacksLaw"
def lw_P (b : Addr) (xs : List Int32) (args : Array Value) (s : State) : Prop := args = #[.ref b] ∧ s.IntsAt b xs ∧ xs.length ≤ 2560 ∧ (Jvm.Cond.and given_1 narrow_1).before args s = true
def lw_Q (_ : Array Value) (s : State) (o : Outcome) (t : State) : Prop := o = .returned (some (.int 1)) ∧ Framed s o t [] 600000 7302250
def lw_Z (below : List Frame) (a : Array Value) (s : State) : State → Prop := fun t => ∃ o, t.status = .running ∧ Ended t below o ∧ lw_Q a s o t
/-- the law's own end, with 1 on the stack, nothing written that was there before, its room as the claim has it -/
theorem lw_ret {p : Program} {l : Launch} {e : Env} {s : State} {m : MethodId} {below : List Frame} {meth : Method} {c : Code} {b : Nat} (hx : p.tables.exec = Jvm.exec) (hb : c.code = code) (hr : meth.sig.returnType = ret) (hlocks : meth.locks = false) {pc : Nat} {H : Heap} {ls : Array Slot} (hdg : decode code pc = .ok (.ireturn, 1)) : W p l e room_1 s m #[Value.ref b] below meth c H [] 600000 7302250 (lw_Z below #[Value.ref b] s) (F0 m pc ls [.int 1]) := by
  intro T hT X
  obtain ⟨fs, hret, hrun, hended, hW, hframe⟩ := X.leave (v := some (.int 1)) (hlocks := hlocks) (fun h => by rw [hr] at h; cases h)
  have hmeth' : T.vm.method? m = some meth := X.method'
  refine ⟨T.setFrames fs, ?_, .returned (some (.int 1)), hrun, hended, rfl, ⟨_, rfl⟩, hW, hframe⟩
  jvm_step X.here [X.here.top, hx, hb, hdg, hmeth', hr, ret, narrow_b1]
  (try refine ⟨rfl, ?_⟩); (try refine ⟨rfl, ?_⟩)
  first | (intro acts; rw [hret _ acts rfl rfl rfl]) | rw [hret _ _ rfl rfl rfl]
  exact Steps.refl _
/-- what holds at the law's entry: the machine, the code, the tables' words (any of lw_tbl by 'hts w (by decide +kernel)'), the script of L ints xs at the cell b, what the Statement gives of the start (any of its parts by flat_of_before) -/
def lw_At (p : Program) (s : State) (m : MethodId) (meth : Method) (c : Code) (b L : Nat) (xs : Nat → Int32) : Prop :=
  p.tables.exec = Jvm.exec ∧ c.code = code ∧ meth.sig.returnType = ret ∧ c.maxLocals = 4 ∧ s.vm.findClass R_law = some m.cls ∧ (∀ w ∈ lw_tbl, w.before #[Value.ref b] s = true) ∧ va_X b L xs s s.heap ∧ b < s.heap.size ∧ meth.locks = false ∧ (Jvm.Cond.and given_1 narrow_1).before #[Value.ref b] s = true
/-! the law's calls -/
section LAW
variable {ad : Nat → Nat} {cT dC : Nat → ClassId} {dI : Nat → Nat → Nat} {adV : Nat → Nat}
variable {p : Program} {l : Launch} {e : Env} {s : State} {m : MethodId} {below : List Frame} {meth : Method} {c : Code} {b L : Nat} {xs : Nat → Int32} {Q : State → Prop}
/-- what holds all through the law -/
def LX (ad : Nat → Nat) (cT dC : Nat → ClassId) (dI : Nat → Nat → Nat) (adV : Nat → Nat) (p : Program) (s : State) (m : MethodId) (meth : Method) (c : Code) (b L : Nat) (xs : Nat → Int32) : Prop := lw_At p s m meth c b L xs ∧ WO ad cT dC dI adV s s.heap ∧ (∀ q, AD ad q → s.heap.size ≤ q) ∧ L ≤ 2560
set_option maxHeartbeats 4000000 in
theorem met_of {n D z : Nat} {as : List AV} {M M' : Mem} {r : Option AV} {mi : MI} (hmz : MT[z]? = some mi) (hmo : MOK mi) (hlay : (lay as).length ≤ mi.2.2.2.1) (hrun : run n D z (0, entL as mi.2.2.2.1, [], M) = some (r, M')) : MetR l ad cT dC dI adV D mi as M r M' := by
  obtain ⟨o2, nm2, cc2, ml2, ret2, na2, sta2⟩ := mi
  obtain ⟨m1, m2, m3, m4, m5, m6, m7⟩ := hmo
  dsimp only at m1 m2 m3 m4 m5 m6 m7 hlay hrun
  refine Met.ofW (cc := cc2) (maxL := ml2) (ret := ret2) m4 rfl ?_
  intro p e s m args below meth c s₁ B hml hv
  obtain ⟨rfl, hP, hW⟩ := hv
  have hts := atoms_spec (ws := WSm (o2, nm2, cc2, ml2, ret2, na2, sta2)) B.pre
  have hown : s.vm.findClass nm2.cls = some m.cls := findClass_of_methodNamed B.named
  rw [lg_entry_eq]
  exact so_run l n D z _ r M' hrun _ hmz (R := rmD D) ⟨B.exec, B.bytes, B.returns, hml, ⟨nm2.cls, m5, hown⟩, fun w hw => hts w (List.mem_cons_of_mem _ hw), B.notSynchronized, hW⟩ ⟨Nat.le_refl _, Nat.le_refl _⟩ (Nat.zero_le _) (Nat.zero_le _) (fun H locs hP1 hS1 t ht _ => ⟨⟨rfl, by rw [ht]; exact hP1⟩, hS1.F ht⟩) (fun _ q => q) _ _ [] (LH_entry _ hlay) hP va_S.rf
set_option maxHeartbeats 4000000 in
/-- a call of the law -/
theorem lw_call {z idx c0 : Nat} {mi : MI} {as : List AV} {M : Mem} {PQ : Int → Mem → Prop} {pc : Nat} {ls : Array Slot} {rest : List Value} {H : Heap} {locs : List Loc} (X : LX ad cT dC dI adV p s m meth c b L xs) (hmz : MT[z]? = some mi) (hmo : MOK mi) (hst : mi.2.2.2.2.2.2 = false) (hlk : Cond.methodLink R_law idx mi.2.1 ∈ GW) (hcl : clsA c0 = some mi.1) (hd : decode code pc = .ok (.invokevirtual idx, 3)) (hsz : ls.size = 4) (hcat : (rest.map fun v => v.category).sum ≤ 8) (hC : CI 40 z (.inr (.inr c0) :: as) M PQ) (hP : va_P (dC, dI) vwCl (WL ad cT M) H) (hS : va_S (AD ad) s.heap H locs)
    (kk : ∀ (v : Int) (M1 : Mem) (H1 : Heap) (locs1 : List Loc), PQ v M1 → va_P (dC, dI) vwCl (WL ad cT M1) H1 → va_S (AD ad) s.heap H1 locs1 → W p l e room_1 s m #[Value.ref b] below meth c H1 locs1 98 1715 Q (F0 m (pc + 3) ls (.int (Int32.ofInt v) :: rest))) : W p l e room_1 s m #[Value.ref b] below meth c H locs 98 1715 Q (F0 m pc ls ((as.map (cz ad)).reverse ++ .ref (ad c0) :: rest)) := by
  obtain ⟨mi', h1, h2, h3, n, r, M1, hrun, v, hrv, hQ⟩ := hC
  have h1 : MT[z]? = some mi' := h1
  cases hmz.symm.trans h1
  subst hrv
  have hM := met_of (l := l) (ad := ad) (cT := cT) (dC := dC) (dI := dI) (adV := adV) hmz hmo h3 hrun
  have hG := WSm_good hmo
  obtain ⟨⟨hx, hb, hr, hml, hown, hts0, hX, hbl, hlocks, hgv⟩, hWO, hnew, hL⟩ := X
  have hts : ∀ w ∈ GW, w.before #[Value.ref b] s = true := fun w hw => hts0 w (List.mem_filter.mp hw).1
  obtain ⟨o2, nm2, cc2, ml2, ret2, na2, sta2⟩ := mi
  obtain ⟨m1, m2, m3, m4, m5, m6, m7⟩ := hmo
  dsimp only at m1 m2 m3 m4 m5 m6 m7 h2 h3 hst hlk hcl
  rcases m7 with ⟨q, -⟩ | ⟨-, m7, m8, nn, m9, m10⟩
  · rw [hst] at q; cases q
  have ho9 := clsA_lt hcl
  have hq := rn_cls o2 ho9
  rw [m5] at hq
  obtain ⟨q, hq1, hq2⟩ := Option.map_eq_some_iff.mp hq
  have hrc := recv_at (s := s) hWO.2.1 hP hcl hq1
  rw [hq2] at hrc
  have hlen2 : (as.map (cz ad)).length = nn := by
    rw [List.length_map]
    simp only [List.length_cons] at h2
    omega
  have hRR : (rmD 40).frames + 1 ≤ room_1.frames ∧ 8 + (ml2 + 11) + (rmD 40).locals ≤ room_1.locals := ⟨Nat.le_of_ble_eq_true rfl, by show 8 + (ml2 + 11) + 4000 ≤ 84000; omega⟩
  have hPre : ∀ U : State, U.heap = H → s.WarmedH U.vm → PcR ad cT dC dI adV (.inr (.inr c0) :: as) M (Value.ref (ad c0) :: as.map (cz ad)).toArray U := fun U hU hW => ⟨rfl, by rw [hU]; exact hP, WO.go hWO hS hU hW⟩
  exact so_cont (va_runV (C := nm2.cls) (Ts := GW) (own := R_law) (nL := 4) (cc := code) (As := as.map (cz ad)) (rest := rest) ⟨hx, hb, hml, hown, hts⟩ hM ⟨callB_of (Ts := GW) (ws' := GW) nn hts hG rfl rfl rfl (hts _ m2) (hts _ hlk) ⟨m3.1, m3.2, m10⟩ hRR, hts _ m7, hts _ m8⟩ ⟨PcR_blind _ _, hrc, hPre⟩ rfl hlen2 hsz rfl (lv_room hcat) hd ⟨Nat.le_of_ble_eq_true rfl, Nat.le_of_ble_eq_true rfl⟩) hS (fun H1 locs1 hP1 hS1 => kk v M1 H1 locs1 hQ hP1 hS1)
theorem i32_ex (x : Int32) : ∃ a : Int, x = Int32.ofInt a ∧ inR a := ⟨x.toInt, (Int32.ofInt_toInt x).symm, by have := Int32.le_toInt x; omega, by have := Int32.toInt_lt x; omega⟩
theorem sl_ld {H : Heap} {locs : List Loc} {cells slots pc : Nat} {ls : Array Slot} {rest : List Value} {R : Room} {A : Nat → Prop} {args : Array Value} {i : Int32} {a : Int} (ha : xs i.toNatClampNeg = Int32.ofInt a) (hx : p.tables.exec = Jvm.exec) (hb : c.code = code) (hX : va_X b L xs s s.heap) (hbl : b < s.heap.size) (hbA : ¬ A b) (hS : va_S A s.heap H locs) (hin : vp_in i L) (hdg : decode code pc = .ok (.iaload, 1))
    (kk : W p l e R s m args below meth c H locs cells slots Q (F0 m (pc + 1) ls (.int (Int32.ofInt a) :: rest))) : W p l e R s m args below meth c H locs cells slots Q (F0 m pc ls (.int i :: .ref b :: rest)) := va_sld hx hb hX hbl hbA hS hin hdg (by rw [ha]; exact kk)
end LAW
