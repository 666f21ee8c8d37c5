/-! one instruction of the abstract machine is one of the machine -/
def LEN : List Nat := [6, 5, 5, 4, 5]
def BYT : List (List Int32) := STT.map fun t => t.map Int32.ofInt
def StrOK (ad adV : Nat → Nat) (U : State) (H : Heap) : Prop := vk_S 5 LEN BYT (fun i => ad (100 + i)) adV (AD ad) U H ∧ (∀ e ∈ SRT, ∃ own tx, RN[e.1]? = some own ∧ vk_R own e.2.1 tx (ad e.2.2) U) ∧ va_Z "java/lang/String" "COMPACT_STRINGS" "Z" (.int 1) (AD ad) U H ∧ va_Zq "jdk/internal/util/Preconditions" "SIOOBE_FORMATTER" "Ljava/util/function/BiFunction;" (AD ad) U H
def WO (ad : Nat → Nat) (cT dC : Nat → ClassId) (dI : Nat → Nat → Nat) (adV : Nat → Nat) (U : State) (H : Heap) : Prop := Inj ad ∧ va_K (dC, dI) vwCl (TYS cT) U ∧ (∀ w ∈ NWs, va_Nw w U) ∧ StrOK ad adV U H
def CX (ad : Nat → Nat) (cT dC : Nat → ClassId) (dI : Nat → Nat → Nat) (adV : Nat → Nat) (p : Program) (s : State) (m : MethodId) (args : Array Value) (meth : Method) (c : Code) (mi : MI) : Prop :=
  p.tables.exec = Jvm.exec ∧ c.code = mi.2.2.1 ∧ meth.sig.returnType = mi.2.2.2.2.1 ∧ c.maxLocals = mi.2.2.2.1 ∧ (∃ own, RN[mi.1]? = some own ∧ s.vm.findClass own = some m.cls) ∧ (∀ w ∈ GW, w.before args s = true) ∧ meth.locks = false ∧ WO ad cT dC dI adV s s.heap
section SOUND
variable {ad : Nat → Nat} {cT dC : Nat → ClassId} {dI : Nat → Nat → Nat} {adV : Nat → Nat}
variable {p : Program} {l : Launch} {e : Env} {R : Room} {s : State} {m : MethodId} {args : Array Value} {below : List Frame} {meth : Method} {c : Code} {cells slots : Nat} {Q : State → Prop}
def WG (ad : Nat → Nat) (cT dC : Nat → ClassId) (dI : Nat → Nat → Nat) (p : Program) (l : Launch) (e : Env) (R : Room) (s : State) (m : MethodId) (args : Array Value) (below : List Frame) (meth : Method) (c : Code) (cells slots : Nat) (Q : State → Prop) (nL : Nat) (st : AS) : Prop :=
  ∀ (ls : Array Slot) (H : Heap) (locs : List Loc), LH ad ls nL st.2.1 → va_P (dC, dI) vwCl (WL ad cT st.2.2.2) H → va_S (AD ad) s.heap H locs → W p l e R s m args below meth c H locs cells slots Q (F0 m st.1 ls (st.2.2.1.map (cz ad)))
theorem ldI_at {ls : Array Slot} {nL k : Nat} {L : LVs} {x : Int} (hl : LH ad ls nL L) (h : ldI L k = some x) : ls[k]? = some (.val (.int (Int32.ofInt x))) := by
  unfold ldI at h
  split at h
  · rename_i h2
    cases h
    exact hl.2.2.2 k _ h2
  · cases h
theorem ldJ_at {ls : Array Slot} {nL k : Nat} {L : LVs} {x : Int} (hl : LH ad ls nL L) (h : ldJ L k = some x) : ls[k]? = some (.val (.long (Int64.ofInt x))) := by
  unfold ldJ at h
  split at h
  · rename_i h2
    cases h
    exact hl.2.2.2 k _ h2
  · cases h
theorem ldR_at {ls : Array Slot} {nL k : Nat} {L : LVs} {x : Nat} (hl : LH ad ls nL L) (h : ldR L k = some x) : ls[k]? = some (.val (.ref (ad x))) := by
  unfold ldR at h
  split at h
  · rename_i h2
    cases h
    exact hl.2.2.2 k _ h2
  · cases h
theorem alL_at {L : LVs} {k : Nat} {x : Int} (h : ldI L k = some x) : ∃ j : Nat, (alL ad L)[j]? = some (k, Value.int (Int32.ofInt x)) := by
  unfold ldI at h
  split at h
  · rename_i h2
    cases h
    exact List.getElem?_of_mem (alL_mem.mpr ⟨_, h2, rfl⟩)
  · cases h
/-- a branch -/
theorem so_if {cc : ByteArray} (hx : p.tables.exec = Jvm.exec) (hb : c.code = cc) {H : Heap} {locs : List Loc} {ls : Array Slot} {rest : List Value} {pc tgt : Nat} {cd : ClassFile.Cond} {off : Int} {x : Int} (h : inR x) (hd : decode cc pc = .ok (.ifCond cd off, 3)) (ht : (pc : Int) + off = (tgt : Int))
    (k : W p l e R s m args below meth c H locs cells slots Q (F0 m (if cmpB cd x 0 then tgt else pc + 3) ls rest)) : W p l e R s m args below meth c H locs cells slots Q (F0 m pc ls (.int (Int32.ofInt x) :: rest)) := by
  have h0 : inR 0 := ⟨by decide, by decide⟩
  have q1 := oi_lt h h0
  have q2 := oi_le h h0
  have q3 := oi_eq h h0
  have q4 := oi_lt h0 h
  have q5 := oi_le h0 h
  rw [← oi_0] at q1 q2 q3 q4 q5
  cases cd
  · refine lv_if_eq hx hb hd ht (fun g => ?_) (fun g => ?_)
    · rw [if_pos (by simp only [cmpB]; exact decide_eq_true (q3.mp g))] at k; exact k
    · rw [if_neg (by simp only [cmpB]; intro z; exact g (q3.mpr (of_decide_eq_true z)))] at k; exact k
  · refine lv_if_ne hx hb hd ht (fun g => ?_) (fun g => ?_)
    · rw [if_pos (by simp only [cmpB]; exact decide_eq_true (fun z => g (q3.mpr z)))] at k; exact k
    · rw [if_neg (by simp only [cmpB]; intro z; exact of_decide_eq_true z (q3.mp g))] at k; exact k
  · refine lv_if_lt hx hb hd ht (fun g => ?_) (fun g => ?_)
    · rw [if_pos (by simp only [cmpB]; exact decide_eq_true (q1.mp g))] at k; exact k
    · rw [if_neg (by simp only [cmpB]; intro z; exact g (q1.mpr (of_decide_eq_true z)))] at k; exact k
  · refine lv_if_ge hx hb hd ht (fun g => ?_) (fun g => ?_)
    · rw [if_pos (by simp only [cmpB]; exact decide_eq_true (q5.mp g))] at k; exact k
    · rw [if_neg (by simp only [cmpB]; intro z; exact g (q5.mpr (of_decide_eq_true z)))] at k; exact k
  · refine lv_if_gt hx hb hd ht (fun g => ?_) (fun g => ?_)
    · rw [if_pos (by simp only [cmpB]; exact decide_eq_true (q4.mp g))] at k; exact k
    · rw [if_neg (by simp only [cmpB]; intro z; exact g (q4.mpr (of_decide_eq_true z)))] at k; exact k
  · refine lv_if_le hx hb hd ht (fun g => ?_) (fun g => ?_)
    · rw [if_pos (by simp only [cmpB]; exact decide_eq_true (q2.mp g))] at k; exact k
    · rw [if_neg (by simp only [cmpB]; intro z; exact g (q2.mpr (of_decide_eq_true z)))] at k; exact k
theorem so_icmp {cc : ByteArray} (hx : p.tables.exec = Jvm.exec) (hb : c.code = cc) {H : Heap} {locs : List Loc} {ls : Array Slot} {rest : List Value} {pc tgt : Nat} {cd : ClassFile.Cond} {off : Int} {x y : Int} (h : inR x) (h0 : inR y) (hd : decode cc pc = .ok (.if_icmp cd off, 3)) (ht : (pc : Int) + off = (tgt : Int))
    (k : W p l e R s m args below meth c H locs cells slots Q (F0 m (if cmpB cd x y then tgt else pc + 3) ls rest)) : W p l e R s m args below meth c H locs cells slots Q (F0 m pc ls (.int (Int32.ofInt y) :: .int (Int32.ofInt x) :: rest)) := by
  have q1 := oi_lt h h0
  have q2 := oi_le h h0
  have q3 := oi_eq h h0
  have q4 := oi_lt h0 h
  have q5 := oi_le h0 h
  cases cd
  · refine lv_icmp_eq hx hb hd ht (fun g => ?_) (fun g => ?_)
    · rw [if_pos (by simp only [cmpB]; exact decide_eq_true (q3.mp g))] at k; exact k
    · rw [if_neg (by simp only [cmpB]; intro z; exact g (q3.mpr (of_decide_eq_true z)))] at k; exact k
  · refine lv_icmp_ne hx hb hd ht (fun g => ?_) (fun g => ?_)
    · rw [if_pos (by simp only [cmpB]; exact decide_eq_true (fun z => g (q3.mpr z)))] at k; exact k
    · rw [if_neg (by simp only [cmpB]; intro z; exact of_decide_eq_true z (q3.mp g))] at k; exact k
  · refine lv_icmp_lt hx hb hd ht (fun g => ?_) (fun g => ?_)
    · rw [if_pos (by simp only [cmpB]; exact decide_eq_true (q1.mp g))] at k; exact k
    · rw [if_neg (by simp only [cmpB]; intro z; exact g (q1.mpr (of_decide_eq_true z)))] at k; exact k
  · refine lv_icmp_ge hx hb hd ht (fun g => ?_) (fun g => ?_)
    · rw [if_pos (by simp only [cmpB]; exact decide_eq_true (q5.mp g))] at k; exact k
    · rw [if_neg (by simp only [cmpB]; intro z; exact g (q5.mpr (of_decide_eq_true z)))] at k; exact k
  · refine lv_icmp_gt hx hb hd ht (fun g => ?_) (fun g => ?_)
    · rw [if_pos (by simp only [cmpB]; exact decide_eq_true (q4.mp g))] at k; exact k
    · rw [if_neg (by simp only [cmpB]; intro z; exact g (q4.mpr (of_decide_eq_true z)))] at k; exact k
  · refine lv_icmp_le hx hb hd ht (fun g => ?_) (fun g => ?_)
    · rw [if_pos (by simp only [cmpB]; exact decide_eq_true (q2.mp g))] at k; exact k
    · rw [if_neg (by simp only [cmpB]; intro z; exact g (q2.mpr (of_decide_eq_true z)))] at k; exact k
theorem so_lcmp {x y : Int} (hx : inR64 x) (hy : inR64 y) : lg_cmp (Int64.ofInt x) (Int64.ofInt y) = Int32.ofInt (if y < x then 1 else if x = y then 0 else -1) := by
  unfold lg_cmp
  simp only [gt_iff_lt, Int64.lt_iff_toInt_lt, ← Int64.toInt_inj, oi_t64 hx, oi_t64 hy]
  split
  · rfl
  · split <;> rfl
theorem so_bin {cc : ByteArray} (hx : p.tables.exec = Jvm.exec) (hb : c.code = cc) {H : Heap} {locs : List Loc} {ls : Array Slot} {rest : List Value} {pc : Nat} {i : Instr} {x y v : Int} (h : bin2 i x y = some v) (hd : decode cc pc = .ok (i, 1))
    (k : W p l e R s m args below meth c H locs cells slots Q (F0 m (pc + 1) ls (.int (Int32.ofInt v) :: rest))) : W p l e R s m args below meth c H locs cells slots Q (F0 m pc ls (.int (Int32.ofInt y) :: .int (Int32.ofInt x) :: rest)) := by
  rcases bin_ok h with ⟨rfl, q⟩ | ⟨rfl, q⟩ | ⟨rfl, q⟩ | ⟨rfl, q⟩ | ⟨rfl, q⟩ | ⟨rfl, n, q⟩ | ⟨rfl, n, q⟩ | ⟨rfl, q⟩ | ⟨rfl, q⟩ | ⟨rfl, q⟩
  · rw [q] at k; exact lv_iadd hx hb hd k
  · rw [q] at k; exact lv_isub hx hb hd k
  · rw [q] at k; exact lv_imul hx hb hd k
  · rw [q] at k; exact lv_iand hx hb hd k
  · rw [q] at k; exact lv_ior hx hb hd k
  · rw [q] at k; exact lv_idiv hx hb hd n k
  · rw [q] at k; exact lv_irem hx hb hd n k
  · rw [q] at k; exact lv_ishl hx hb hd k
  · rw [q] at k; exact lv_ishr hx hb hd k
  · exact lv_iushr hx hb hd q k
/-- aaload, any rows -/
theorem so_aald {cc : ByteArray} {D : va_G} {cl : List vw_C} {tys : List (ClassId × FieldType)} {ws : va_W} {H : Heap} {locs : List Loc} {ls : Array Slot} {rest : List Value} {pc a : Nat} (hexec : p.tables.exec = Jvm.exec) (hb : c.code = cc) (hK : va_K D cl tys s) (hP : va_P D cl ws H) (q0 t0 : Nat) {cA : ClassId} {ty : FieldType} {n : Nat} {f : Nat → Option Nat} (hty : ty.isReference = true) (ha : ws[q0]? = some (a, .inl (cA, n, .inr (.inr (.inr (.inr f)))))) (ht : tys[t0]? = some (cA, ty)) {i : Int32} (hin : vp_in i n) (hdg : decode cc pc = .ok (.aaload, 1))
    (kk : W p l e R s m args below meth c H locs cells slots Q (F0 m (pc + 1) ls (va_rf (f i.toNatClampNeg) :: rest))) : W p l e R s m args below meth c H locs cells slots Q (F0 m pc ls (.int i :: .ref a :: rest)) := by
  have hlt : i.toNatClampNeg < n := Nat.not_le.mp fun q => hin (Or.inr q)
  exact W.aald (v := va_rf (f i.toNatClampNeg)) (ty := ty) hexec hb (hP q0 _ ha) ((hK.2 t0 _ ht).1 n (fun j => va_rf (f j))) hty (fun q => by cases q) (by show ¬ (i < 0 ∨ (arrV _ _ _).slots.size ≤ _); rw [arrV_size]; exact hin) (by show (arrV _ _ _).slots[_]? = _; rw [arrV_read _ _ hlt]) rfl rfl hdg kk
theorem upd_of (f : Int → Int) (i v : Int) (hi : 0 ≤ i) : upd (fun j : Nat => Int32.ofInt (f (j : Int))) i.toNat (Int32.ofInt v) = fun j : Nat => Int32.ofInt (upI f i v (j : Int)) := by
  funext j
  by_cases h : j = i.toNat
  · have h2 : (j : Int) = i := by omega
    simp only [upd, upI]
    rw [if_pos h, if_pos h2]
  · have h2 : ¬ (j : Int) = i := by omega
    simp only [upd, upI]
    rw [if_neg h, if_neg h2]
theorem cpy_of (f g : Int → Int) (sp dp n : Int) (h1 : 0 ≤ sp) (h2 : 0 ≤ dp) (h3 : 0 ≤ n) : va_cpy (fun j : Nat => Int32.ofInt (f (j : Int))) (fun j : Nat => Int32.ofInt (g (j : Int))) sp.toNat dp.toNat n.toNat = fun j : Nat => Int32.ofInt (cpI f g sp dp n (j : Int)) := by
  funext j
  by_cases h : dp.toNat ≤ j ∧ j < dp.toNat + n.toNat
  · have h4 : dp ≤ (j : Int) ∧ (j : Int) < dp + n := by omega
    have h5 : ((sp.toNat + (j - dp.toNat) : Nat) : Int) = sp + ((j : Int) - dp) := by omega
    simp only [va_cpy, cpI, if_pos h, if_pos h4, h5]
  · have h4 : ¬ (dp ≤ (j : Int) ∧ (j : Int) < dp + n) := by omega
    simp only [va_cpy, cpI, if_neg h, if_neg h4]
end SOUND
