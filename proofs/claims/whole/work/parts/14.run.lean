def tbA (y : Nat) : Option (List EN) := TBS[y]?
def mtA (z : Nat) : Option MI := MT[z]?
/-- one turn of a run -/
def runB (rc : Nat → Nat → AS → Option (Option AV × Mem)) (D y : Nat) (st : AS) : Option (Option AV × Mem) := match tbA y with
    | none => none
    | some tb => match lkp tb st.1 with
      | none => none
      | some e => match callOf e with
        | none => match stp e st with
          | none => none
          | some (.inl st') => rc D y st'
          | some (.inr r) => some r
        | some (z, k, v) => match D with
          | 0 => none
          | D' + 1 => match Nat.ble 1000 z with
            | true => match prm (z - 1000) e.2.2.1 st.2.1 st.2.2.1 st.2.2.2 with
              | some (.inl st') => match Nat.ble 4 D with
                | true => rc D y st'
                | false => none
              | _ => none
            | false => match mtA z with
              | none => none
              | some (o, _, _, ml, _, na, sta) =>
                if na = k ∧ sta = !v ∧ k ≤ st.2.2.1.length ∧ catS (st.2.2.1.drop k) ≤ 8 ∧ (v = true → recvOK o (st.2.2.1.take k).reverse = true) ∧ (lay (st.2.2.1.take k).reverse).length ≤ ml then
                  match rc D' z (0, entL (st.2.2.1.take k).reverse ml, [], st.2.2.2) with
                  | none => none
                  | some (r, M') => rc D y (e.2.2.1, st.2.1, r.toList ++ st.2.2.1.drop k, M')
                else none
def run : Nat → Nat → Nat → AS → Option (Option AV × Mem)
  | 0 => fun _ _ _ => none
  | n + 1 => runB (run n)
theorem run_succ (n D y : Nat) (st : AS) : run (n + 1) D y st = runB (run n) D y st := rfl
section SORUN
variable {ad : Nat → Nat} {cT dC : Nat → ClassId} {dI : Nat → Nat → Nat} {adV : Nat → Nat}
variable {p : Program} {l : Launch} {e : Env} {R : Room} {s : State} {m : MethodId} {args : Array Value} {below : List Frame} {meth : Method} {c : Code} {cells slots : Nat} {Q : State → Prop}
/-- how a run ends -/
def QcR (ad : Nat → Nat) (cT dC : Nat → ClassId) (dI : Nat → Nat → Nat) (r : Option AV) (M : Mem) : Array Value → State → Outcome → State → Prop := fun _ st oc t => (oc = .returned (r.map (cz ad)) ∧ va_P (dC, dI) vwCl (WL ad cT M) t.heap) ∧ va_F (AD ad) st t
/-- how a run begins -/
def PcR (ad : Nat → Nat) (cT dC : Nat → ClassId) (dI : Nat → Nat → Nat) (adV : Nat → Nat) (as : List AV) (M : Mem) : Array Value → State → Prop := va_Pc (as.map (cz ad)) (fun U => va_P (dC, dI) vwCl (WL ad cT M) U.heap ∧ WO ad cT dC dI adV U U.heap)
def rmD (D : Nat) : Room := { frames := D, cells := 0, slots := 0, locals := 100 * D }
abbrev WSm (mi : MI) : List Cond := Cond.code mi.2.1 mi.2.2.1 mi.2.2.2.1 mi.2.2.2.2.1 :: GW
/-- a method's contract, by a run of the abstract machine -/
def MetR (l : Launch) (ad : Nat → Nat) (cT dC : Nat → ClassId) (dI : Nat → Nat → Nat) (adV : Nat → Nat) (D : Nat) (mi : MI) (as : List AV) (M : Mem) (r : Option AV) (M' : Mem) : Prop :=
  Met l mi.2.1 (WSm mi) (rmD D) (PcR ad cT dC dI adV as M) (QcR ad cT dC dI r M') 0 0 (AD ad)
theorem PcR_blind (as : List AV) (M : Mem) : FrameBlind (PcR ad cT dC dI adV as M) := fun a U g mk q => ⟨q.1, q.2.1, WO.same q.2.2 rfl rfl⟩
theorem WSm_good {mi : MI} (h : MOK mi) : GoodIn GW (WSm mi) := by
  intro w hw
  have hg : w ∈ GW := by
    rcases List.mem_cons.mp hw with rfl | q
    · exact h.1
    · exact q
  exact ⟨hg, good_of_word (List.mem_filter.mp hg).2⟩
/-- behind a call -/
theorem so_cont {H : Heap} {locs : List Loc} {ls : Array Slot} {st0 rest : List Value} {pc : Nat} {r : Option AV} {M' : Mem} {a : Array Value} (hr : va_Run p l e R s m args below meth c H locs cells slots 0 0 (F0 m pc ls st0) rest (QcR ad cT dC dI r M' a) (AD ad)) (hS : va_S (AD ad) s.heap H locs)
    (kk : ∀ (H1 : Heap) (locs1 : List Loc), va_P (dC, dI) vwCl (WL ad cT M') H1 → va_S (AD ad) s.heap H1 locs1 → W p l e R s m args below meth c H1 locs1 cells slots Q (F0 m (pc + 3) ls ((r.map (cz ad)).toList ++ rest))) : W p l e R s m args below meth c H locs cells slots Q (F0 m pc ls st0) := by
  intro T hT X
  obtain ⟨v, st₀, t, T', L, h0, X', hL, e1, e2, ⟨⟨hv, hp⟩, hz, hk⟩, st⟩ := hr T hT X
  cases hv
  rw [h0] at hz hk
  obtain ⟨t2, a1, b1⟩ := kk T'.heap (locs ++ L) (by rw [e1]; exact hp)
    ⟨Nat.le_trans hS.1 (by rw [e1]; exact hz), fun q h1 h2 => by rw [e1, hk q (Nat.lt_of_lt_of_le h1 hS.1) h2]; exact hS.2.1 q h1 h2, fun q hq => by
      rcases List.mem_append.mp hq with h | h
      · exact hS.2.2 q h
      · exact hL q h⟩ T' rfl X'
  exact ⟨t2, st t2 a1, b1⟩
theorem recv_at {H : Heap} {M : Mem} {o cc : Nat} {q : vw_C} (hK : va_K (dC, dI) vwCl (TYS cT) s) (hP : va_P (dC, dI) vwCl (WL ad cT M) H) (hc : clsA cc = some o) (hq : vwCl[o]? = some q) : ∃ cellB : Cell, H[ad cc]? = some cellB ∧ cellB.vm.isStatics = false ∧ s.vm.findClass q.1 = some cellB.cls := by
  obtain ⟨fs, hs⟩ := clsA_s hc
  have h1 : (WL ad cT M)[cc]? = some (ad cc, .inr (o, fvs ad (M cc) fs 0)) := WL_at hs
  obtain ⟨C, T, N⟩ := q
  obtain ⟨r, h2, cell, q1, q2, q3, q4⟩ := hP cc _ h1
  have hr : r = (C, T, N) := Option.some.inj (h2.symm.trans hq)
  subst hr
  obtain ⟨hS, hfc, kC, hkC, hkind⟩ := hK.1 o _ hq
  exact ⟨cell, q1, by rw [q3]; rfl, by rw [q2]; exact hfc⟩
theorem rn_cls : ∀ o, o < 9 → (vwCl[o]?).map (fun q => q.1) = RN[o]? := by decide +kernel
theorem clsA_lt {cc o : Nat} (h : clsA cc = some o) : o < 9 := by
  obtain ⟨fs, hs⟩ := clsA_s h
  have key : ∀ i, i < 98 → (match shp i with | some (.inr (.inr (u, _))) => decide (u < 9) | _ => true) = true := by decide +kernel
  have := key cc (shp_lt hs)
  rw [hs] at this
  exact of_decide_eq_true this
set_option maxHeartbeats 4000000 in
/-- a call of an own method -/
theorem so_call {mi mi2 : MI} {en : EN} {st : AS} {z kk D : Nat} {v : Bool} {r : Option AV} {M' : Mem} (C : CX ad cT dC dI adV p s m args meth c mi) (hck : chkE mi en = true) (hpc : en.1 = st.1) (hcall : callOf en = some (z, kk, v)) (hz : z < 1000) (hmz : MT[z]? = some mi2) (hna : mi2.2.2.2.2.2.1 = kk) (hsta : mi2.2.2.2.2.2.2 = !v) (hk : kk ≤ st.2.2.1.length) (hcat : catS (st.2.2.1.drop kk) ≤ 8) (hrecv : v = true → recvOK mi2.1 (st.2.2.1.take kk).reverse = true)
    (hM : MetR l ad cT dC dI adV D mi2 (st.2.2.1.take kk).reverse st.2.2.2 r M') (hR : RM (D + 1) R) (hc : cells ≤ R.cells) (hs : slots ≤ R.slots) (k : WG ad cT dC dI p l e R s m args below meth c cells slots Q mi.2.2.2.1 (en.2.2.1, st.2.1, r.toList ++ st.2.2.1.drop kk, M')) : WG ad cT dC dI p l e R s m args below meth c cells slots Q mi.2.2.2.1 st := by
  obtain ⟨pc, L, S, M⟩ := st
  obtain ⟨pc', ins, nx, a, b, zz⟩ := en
  obtain ⟨o, nm, cc, ml, ret, na, sta⟩ := mi
  obtain ⟨o2, nm2, cc2, ml2, ret2, na2, sta2⟩ := mi2
  dsimp only at hpc
  subst hpc
  obtain ⟨n, hd, hnx, hn, hX⟩ := chk_dec hck
  dsimp only at hd hnx hn hX k hna hsta hk hcat hrecv hM ⊢
  obtain ⟨hx, hb, hr, hml, ⟨own, hRN, hown⟩, hts, hlocks, hWO⟩ := C
  have hWO' := hWO
  obtain ⟨hinj, hK, hNW, hST⟩ := hWO
  dsimp only at hb hr hml hRN
  intro ls H locs hl hP hS
  dsimp only at hl hP ⊢
  have hSplit : S.map (cz ad) = ((S.take kk).reverse.map (cz ad)).reverse ++ (S.drop kk).map (cz ad) := by
    rw [← List.map_reverse, List.reverse_reverse, ← List.map_append, List.take_append_drop]
  have hlenT : ((S.take kk).reverse).length = kk := by rw [List.length_reverse, List.length_take]; omega
  generalize hasq : (S.take kk).reverse = as at hSplit hlenT hM hrecv
  have hW8 : 2 * (F0 m pc' ls (S.map (cz ad))).monitorRoom + (((S.drop kk).map (cz ad)).map fun v => v.category).sum ≤ 8 := lv_room (by rw [cz_catS]; exact hcat)
  have hkk : r.toList.map (cz ad) = (r.map (cz ad)).toList := by cases r <;> rfl
  have hPre : ∀ U : State, U.heap = H → s.WarmedH U.vm → PcR ad cT dC dI adV as M (as.map (cz ad)).toArray U := fun U hU hW => ⟨rfl, by rw [hU]; exact hP, WO.go hWO' hS hU hW⟩
  have hfit : cells + 0 ≤ R.cells ∧ slots + 0 ≤ R.slots := ⟨hc, hs⟩
  have fin : ∀ {st0 : List Value}, va_Run p l e R s m args below meth c H locs cells slots 0 0 (F0 m pc' ls st0) ((S.drop kk).map (cz ad)) (QcR ad cT dC dI r M' (as.map (cz ad)).toArray) (AD ad) → nx = pc' + 3 → W p l e R s m args below meth c H locs cells slots Q (F0 m pc' ls st0) := by
    intro st0 hrun hnx3
    refine so_cont hrun hS (fun H1 locs1 hP1 hS1 => ?_)
    have := k ls H1 locs1 hl hP1 hS1
    dsimp only at this
    rw [hnx3, List.map_append, hkk] at this
    exact this
  have lk : ∀ idx, (ins = .invokevirtual idx ∨ ins = .invokestatic idx) → a = z → MOK (o2, nm2, cc2, ml2, ret2, na2, sta2) ∧ (Cond.methodLink own idx nm2 ∈ GW ∨ ∃ host, Cond.methodLinkNest own idx nm2 host ∈ NWs) := by
    intro idx hi ha
    subst ha
    have hX2 : MLT.contains (o, idx, a, zz) = true := by
      rcases hi with rfl | rfl <;> exact hX
    obtain ⟨ow, g1, g2⟩ := ml_ok _ (List.contains_iff_mem.mp hX2)
    cases hRN.symm.trans g1
    rcases g2 with ⟨mi3, q1, q2, q3⟩ | ⟨q, -⟩
    · cases hmz.symm.trans q1
      exact ⟨q2, q3⟩
    · dsimp only at q
      omega
  unfold callOf at hcall
  dsimp only at hcall
  split at hcall
  · -- virtual
    rename_i idx
    (dsimp only [insN] at hn; subst hn)
    cases hcall
    obtain ⟨hmo, hlk⟩ := lk idx (Or.inl rfl) rfl
    have hG := WSm_good hmo
    obtain ⟨m1, m2, m3, m4, m5, m6, m7⟩ := hmo
    dsimp only at m1 m2 m3 m4 m5 m6 m7
    rcases m7 with ⟨q, -⟩ | ⟨-, m7, m8, nn, m9, m10⟩
    · rw [hsta] at q; cases q
    have hrv := hrecv rfl
    cases as with
    | nil => cases hrv
    | cons a0 as' =>
      rcases a0 with z0 | z0 | c0
      · cases hrv
      · cases hrv
      · have hcl : clsA c0 = some o2 := by simpa [recvOK] using hrv
        have ho9 := clsA_lt hcl
        have hq := rn_cls o2 ho9
        rw [m5] at hq
        obtain ⟨q, hq1, hq2⟩ := Option.map_eq_some_iff.mp hq
        have hrc := recv_at (s := s) hK hP hcl hq1
        rw [hq2] at hrc
        have hlen2 : (as'.map (cz ad)).length = nn := by
          rw [List.length_map]
          simp only [List.length_cons] at hlenT
          omega
        have hst : S.map (cz ad) = (as'.map (cz ad)).reverse ++ .ref (ad c0) :: (S.drop kk).map (cz ad) := by
          rw [hSplit]
          simp [cz]
        have hRR : (rmD D).frames + 1 ≤ R.frames ∧ 8 + (ml2 + 11) + (rmD D).locals ≤ R.locals := ⟨hR.1, by have := hR.2; show 8 + (ml2 + 11) + 100 * D ≤ R.locals; omega⟩
        rcases hlk with hlk | ⟨host, hlk⟩
        · exact fin (va_runV (C := nm2.cls) (Ts := GW) ⟨hx, hb, hml, hown, hts⟩ hM ⟨callB_of (Ts := GW) (ws' := GW) nn hts hG rfl rfl rfl (hts _ m2) (hts _ hlk) ⟨m3.1, m3.2, m10⟩ hRR, hts _ m7, hts _ m8⟩ ⟨PcR_blind _ _, hrc, hPre⟩ rfl hlen2 hl.1 hst hW8 hd hfit) hnx
        · exact fin (va_runVN (C := nm2.cls) (Ts := GW) ⟨hx, hb, hml, hown, hts⟩ hM ⟨va_cnB (Ts := GW) (ws' := GW) (host := host) nn hts hG rfl rfl rfl (hNW _ hlk) (hts _ m2) ⟨m3.1, m3.2, m10⟩ hRR, hts _ m7, hts _ m8⟩ ⟨PcR_blind _ _, hrc, hPre⟩ rfl hlen2 hl.1 hst hW8 hd hfit) hnx
  · -- static
    rename_i idx
    (dsimp only [insN] at hn; subst hn)
    cases hcall
    obtain ⟨hmo, hlk⟩ := lk idx (Or.inr rfl) rfl
    have hG := WSm_good hmo
    obtain ⟨m1, m2, m3, m4, m5, m6, m7⟩ := hmo
    dsimp only at m1 m2 m3 m4 m5 m6 m7
    rcases m7 with ⟨-, m7, m8⟩ | ⟨q, -⟩
    · have hlen2 : (as.map (cz ad)).length = na2 := by rw [List.length_map, hlenT, hna]
      have hRR : (rmD D).frames + 1 ≤ R.frames ∧ 8 + (ml2 + 11) + (rmD D).locals ≤ R.locals := ⟨hR.1, by have := hR.2; show 8 + (ml2 + 11) + 100 * D ≤ R.locals; omega⟩
      rcases hlk with hlk | ⟨host, hlk⟩
      · exact fin (va_runS (Ts := GW) ⟨hx, hb, hml, hown, hts⟩ hM ⟨callB_of (Ts := GW) (ws' := GW) na2 hts hG rfl rfl rfl (hts _ m2) (hts _ hlk) ⟨m3.1, m3.2, m8⟩ hRR, hts _ m7⟩ ⟨PcR_blind _ _, hPre⟩ rfl hlen2 hl.1 hSplit hW8 hd hfit) hnx
      · exact fin (va_runSN (Ts := GW) ⟨hx, hb, hml, hown, hts⟩ hM ⟨va_cnB (Ts := GW) (ws' := GW) (host := host) na2 hts hG rfl rfl rfl (hNW _ hlk) (hts _ m2) ⟨m3.1, m3.2, m8⟩ hRR, hts _ m7, trivial⟩ ⟨PcR_blind _ _, hPre⟩ rfl hlen2 hl.1 hSplit hW8 hd hfit) hnx
    · rw [hsta] at q; cases q
  · cases hcall
set_option maxHeartbeats 4000000 in
/-- a return -/
theorem so_ret {mi : MI} {en : EN} {st : AS} {r : Option AV} {M' : Mem} {Qc : Array Value → State → Outcome → State → Prop} {free : Addr → Prop} (C : CX ad cT dC dI adV p s m args meth c mi) (hck : chkE mi en = true) (hpc : en.1 = st.1) (h : stp en st = some (.inr (r, M')))
    (hfin : ∀ (H : Heap) (locs : List Loc), va_P (dC, dI) vwCl (WL ad cT M') H → va_S (AD ad) s.heap H locs → ∀ t : State, t.heap = H → s.WarmedH t.vm → Qc args s (.returned (r.map (cz ad))) t) (hfree : ∀ q, AD ad q → free q) : WG ad cT dC dI p l e R s m args below meth c cells slots (MQ below Qc args s cells slots free) mi.2.2.2.1 st := by
  obtain ⟨pc, L, S, M⟩ := st
  obtain ⟨pc', ins, nx, a, b, z⟩ := en
  obtain ⟨o, nm, cc, ml, ret, na, sta⟩ := mi
  dsimp only at hpc
  subst hpc
  obtain ⟨n, hd, hnx, hn, hX⟩ := chk_dec hck
  dsimp only at hd hnx hn hX ⊢
  obtain ⟨hx, hb, hr, hml, ⟨own, hRN, hown⟩, hts, hlocks, hWO⟩ := C
  dsimp only at hb hr hml hRN
  intro ls H locs hl hP hS
  dsimp only at hl hP ⊢
  have hf : ∀ q ∈ locs, free q.base := fun q hq => hfree _ (hS.2.2 q hq)
  have no : ∀ {α : Type} (o : Option α) (f : α → AS), (o.map fun x => (Sum.inl (f x) : AS ⊕ (Option AV × Mem))) = some (.inr (r, M')) → False := by
    intro α o f q
    obtain ⟨x, -, h2⟩ := Option.map_eq_some_iff.mp q
    cases h2
  unfold stp at h
  dsimp only at h
  split at h
  all_goals first
    | (cases h; done)
    | exact (no _ _ h).elim
    | (split at h <;> first | (cases h; done) | exact (no _ _ h).elim | (split at h <;> first | (cases h; done) | exact (no _ _ h).elim | (split at h <;> first | (cases h; done) | exact (no _ _ h).elim)); done)
    | skip
  · -- ireturn
    (dsimp only [insN] at hn; subst hn)
    split at h
    · split at h
      · rename_i S0 x0 hcd
        cases h
        unfold chkX at hX
        dsimp only at hX
        split at hX
        · exact W.iret hx hb hr (fun t ht hW => hfin H locs hP hS t ht hW) hf hd hlocks
        · have hz : x0 = 0 ∨ x0 = 1 := by
            rcases hcd with q | q
            · cases q
            · exact q.2
          exact W.zret hx hb hr (by rcases hz with rfl | rfl <;> rfl) (fun t ht hW => hfin H locs hP hS t ht hW) hf hd hlocks
        · cases hX
      · cases h
    · cases h
  · -- areturn
    (dsimp only [insN] at hn; subst hn)
    split at h
    · cases h
      unfold chkX at hX
      dsimp only at hX
      split at hX
      · exact W.aret hx hb hr (Or.inl ⟨_, rfl⟩) (Or.inr ⟨_, rfl⟩) (fun t ht hW => hfin H locs hP hS t ht hW) hf hd hlocks
      · cases hX
    · cases h
  · -- return
    (dsimp only [insN] at hn; subst hn)
    split at h
    · cases h
      unfold chkX at hX
      dsimp only at hX
      split at hX
      · exact W.vret hx hb hr (fun t ht hW => hfin H locs hP hS t ht hW) hf hd hlocks
      · cases hX
    · cases h
set_option maxHeartbeats 4000000 in
set_option maxRecDepth 100000 in
/-- THE ABSTRACT MACHINE'S RUNS ARE THE MACHINE'S -/
theorem so_run (l : Launch) : ∀ (n D y : Nat) (st : AS) (r : Option AV) (M' : Mem), run n D y st = some (r, M') → ∀ (mi : MI), MT[y]? = some mi →
    ∀ {p : Program} {e : Env} {R : Room} {s : State} {m : MethodId} {args : Array Value} {below : List Frame} {meth : Method} {c : Code} {cells slots : Nat} {Qc : Array Value → State → Outcome → State → Prop} {free : Addr → Prop}, CX ad cT dC dI adV p s m args meth c mi → RM D R → cells ≤ R.cells → slots ≤ R.slots →
    (∀ (H : Heap) (locs : List Loc), va_P (dC, dI) vwCl (WL ad cT M') H → va_S (AD ad) s.heap H locs → ∀ t : State, t.heap = H → s.WarmedH t.vm → Qc args s (.returned (r.map (cz ad))) t) → (∀ q, AD ad q → free q) →
    WG ad cT dC dI p l e R s m args below meth c cells slots (MQ below Qc args s cells slots free) mi.2.2.2.1 st := by
  intro n
  induction n with
  | zero => intro D y st r M' h; cases h
  | succ n ih =>
    intro D y st r M' h mi hmi p e R s m args below meth c cells slots Qc free C hR hc hs hfin hfree
    rw [run_succ] at h
    unfold runB at h
    split at h
    · cases h
    · rename_i tb htb
      have htb : TBS[y]? = some tb := htb
      split at h
      · cases h
      · rename_i en hen
        obtain ⟨hin, hpc⟩ := lkp_in hen
        have hck := ck_ok htb hmi hin
        split at h
        · split at h
          · cases h
          · rename_i st' hst
            exact so_stp C hck hpc hst (ih D y st' r M' h mi hmi C hR hc hs hfin hfree)
          · rename_i r' hst
            cases h
            exact so_ret C hck hpc hst hfin hfree
        · rename_i z kk v hcall
          split at h
          · cases h
          · rename_i D'
            split at h
            · rename_i hz
              split at h
              · rename_i st' hpr
                split at h
                · rename_i hD
                  have h4 : 4 ≤ D' + 1 := Nat.le_of_ble_eq_true hD
                  exact so_prm C hck (prK_at htb hin) hpc hcall (Nat.le_of_ble_eq_true hz) hpr ⟨by have := hR.1; omega, by have := hR.2; omega⟩ hc hs (ih (D' + 1) y st' r M' h mi hmi C hR hc hs hfin hfree)
                · cases h
              · cases h
            · rename_i hz
              have hz1 : z < 1000 := by
                rcases Nat.lt_or_ge z 1000 with q | q
                · exact q
                · rw [Nat.ble_eq_true_of_le q] at hz; cases hz
              split at h
              · cases h
              · rename_i o2 nm2 cc2 ml2 ret2 na2 sta2 hmz
                have hmz : MT[z]? = some (o2, nm2, cc2, ml2, ret2, na2, sta2) := hmz
                split at h
                · rename_i hcd
                  obtain ⟨c1, c2, c3, c4, c5, c6⟩ := hcd
                  split at h
                  · cases h
                  · rename_i r2 M2 hrun
                    refine so_call (D := D') (r := r2) (M' := M2) C hck hpc hcall hz1 hmz c1 c2 c3 c4 c5 ?_ hR hc hs (ih (D' + 1) y _ r M' h mi hmi C hR hc hs hfin hfree)
                    have hmo : MOK (o2, nm2, cc2, ml2, ret2, na2, sta2) := by
                      have hX := (chk_dec hck).choose_spec.2.2.2
                      obtain ⟨pc', ins, nx, a, b, zz⟩ := en
                      unfold callOf at hcall
                      dsimp only at hcall
                      have go : ∀ idx, MLT.contains (mi.1, idx, a, zz) = true → a = z → MOK (o2, nm2, cc2, ml2, ret2, na2, sta2) := by
                        intro idx hX2 ha
                        subst ha
                        obtain ⟨ow, g1, g2⟩ := ml_ok _ (List.contains_iff_mem.mp hX2)
                        rcases g2 with ⟨mi3, q1, q2, q3⟩ | ⟨q, -⟩
                        · cases hmz.symm.trans q1
                          exact q2
                        · dsimp only at q
                          omega
                      split at hcall
                      · rename_i idx
                        cases hcall
                        exact go idx hX rfl
                      · rename_i idx
                        cases hcall
                        exact go idx hX rfl
                      · cases hcall
                    have hmo2 := hmo
                    obtain ⟨m1, m2, m3, m4, m5, m6, m7⟩ := hmo
                    dsimp only at m1 m2 m3 m4 m5 m6 m7
                    refine Met.ofW (cc := cc2) (maxL := ml2) (ret := ret2) m4 rfl ?_
                    intro p e s m args below meth c s₁ B hml hv
                    obtain ⟨rfl, hP, hW⟩ := hv
                    have hts := atoms_spec (ws := WSm (o2, nm2, cc2, ml2, ret2, na2, sta2)) B.pre
                    have hown : s.vm.findClass nm2.cls = some m.cls := findClass_of_methodNamed B.named
                    rw [lg_entry_eq]
                    exact ih D' z _ r2 M2 hrun _ hmz (R := rmD D') ⟨B.exec, B.bytes, B.returns, hml, ⟨nm2.cls, m5, hown⟩, fun w hw => hts w (List.mem_cons_of_mem _ hw), B.notSynchronized, hW⟩ ⟨Nat.le_refl _, Nat.le_refl _⟩ (Nat.zero_le _) (Nat.zero_le _) (fun H locs hP1 hS1 t ht _ => ⟨⟨rfl, by rw [ht]; exact hP1⟩, hS1.F ht⟩) (fun _ q => q) _ _ [] (LH_entry _ c6) hP va_S.rf
                · cases h
end SORUN
