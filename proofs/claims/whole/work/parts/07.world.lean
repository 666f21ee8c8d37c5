/-! the abstract machine's world as cells of the heap -/
section WORLD
variable {ad : Nat → Nat} {cT : Nat → ClassId}
def cz (ad : Nat → Nat) : AV → Value
  | .inl z => .int (Int32.ofInt z)
  | .inr (.inl z) => .long (Int64.ofInt z)
  | .inr (.inr i) => .ref (ad i)
theorem cz_cat (v : AV) : (cz ad v).category = catA v := by
  rcases v with z | z | i <;> rfl
theorem cz_catS (S : List AV) : ((S.map (cz ad)).map fun v => v.category).sum = catS S := by
  unfold catS
  rw [List.map_map]
  congr 1
  exact List.map_congr_left fun v _ => cz_cat v
def fvs (ad : Nat → Nat) (f : Int → Int) : List (Option Nat) → Nat → List Value
  | [], _ => []
  | some r :: l, k => .ref (ad r) :: fvs ad f l (k + 1)
  | none :: l, k => .int (Int32.ofInt (f (k : Int))) :: fvs ad f l (k + 1)
def fv1 (ad : Nat → Nat) (f : Int → Int) (k : Nat) (o : Option Nat) : Value := match o with
  | some r => .ref (ad r)
  | none => .int (Int32.ofInt (f (k : Int)))
theorem fvs_get (f : Int → Int) : ∀ (l : List (Option Nat)) (k i : Nat), (fvs ad f l k)[i]? = (l[i]?).map (fv1 ad f (k + i))
  | [], k, i => by simp [fvs]
  | some r :: l, k, 0 => by simp [fvs, fv1]
  | none :: l, k, 0 => by simp [fvs, fv1]
  | some r :: l, k, i + 1 => by
    rw [fvs, List.getElem?_cons_succ, List.getElem?_cons_succ, fvs_get f l (k + 1) i, show k + 1 + i = k + (i + 1) by omega]
  | none :: l, k, i + 1 => by
    rw [fvs, List.getElem?_cons_succ, List.getElem?_cons_succ, fvs_get f l (k + 1) i, show k + 1 + i = k + (i + 1) by omega]
theorem fvs_set (f : Int → Int) (l : List (Option Nat)) (i : Nat) (v : Int) (h : l[i]? = some none) : (fvs ad f l 0).set i (.int (Int32.ofInt v)) = fvs ad (upI f (i : Int) v) l 0 := by
  apply List.ext_getElem?
  intro j
  rw [fvs_get]
  by_cases e : i = j
  · subst e
    rw [List.getElem?_set, if_pos rfl, h]
    have hl : i < (fvs ad f l 0).length := by
      rcases Nat.lt_or_ge i (fvs ad f l 0).length with q | q
      · exact q
      · have h2 := fvs_get (ad := ad) f l 0 i
        rw [List.getElem?_eq_none q, h] at h2
        cases h2
    simp [hl, fv1, upI]
  · rw [List.getElem?_set_ne e, fvs_get]
    cases l[j]? with
    | none => rfl
    | some o =>
      cases o with
      | none => simp [fv1, upI, show ¬ (j : Int) = (i : Int) from fun q => e (by omega)]
      | some r => rfl
def cellOf (ad : Nat → Nat) (cT : Nat → ClassId) (f : Int → Int) : SHP → va_E
  | .inl (t, n) => .inl (cT t, n, .inl (fun j => Int32.ofInt (f (j : Int))))
  | .inr (.inl (t, ts)) => .inl (cT t, ts.length, .inr (.inr (.inr (.inr (fun j => (ts[j]?).map ad)))))
  | .inr (.inr (ci, fs)) => .inr (ci, fvs ad f fs 0)
def WL (ad : Nat → Nat) (cT : Nat → ClassId) (M : Mem) : va_W := SH.mapIdx fun i sh => (ad i, cellOf ad cT (M i) sh)
theorem WL_get (M : Mem) (i : Nat) : (WL ad cT M)[i]? = (shp i).map fun sh => (ad i, cellOf ad cT (M i) sh) := by
  unfold WL shp
  rw [List.getElem?_mapIdx]
theorem WL_at {M : Mem} {i : Nat} {sh : SHP} (h : shp i = some sh) : (WL ad cT M)[i]? = some (ad i, cellOf ad cT (M i) sh) := by rw [WL_get, h]; rfl
theorem WL_set {M : Mem} {i : Nat} {sh : SHP} (h : shp i = some sh) (g : Int → Int) : (WL ad cT M).set i (ad i, cellOf ad cT g sh) = WL ad cT (setC M i g) := by
  apply List.ext_getElem?
  intro j
  rw [WL_get]
  by_cases e : i = j
  · subst e
    have hl : i < (WL ad cT M).length := (List.getElem?_eq_some_iff.mp (WL_at (ad := ad) (cT := cT) (M := M) h)).1
    rw [List.getElem?_set, if_pos rfl, if_pos hl, h]
    simp [setC]
  · rw [List.getElem?_set_ne e, WL_get]
    simp [setC, show ¬ j = i from fun q => e q.symm]
/-- the cells that the world may write -/
def AD (ad : Nat → Nat) : Nat → Prop := fun q => ∃ i, i < SH.length ∧ q = ad i
def Inj (ad : Nat → Nat) : Prop := ∀ i j, i < SH.length → j < SH.length → ad i = ad j → i = j
theorem WL_D {M : Mem} (h : Inj ad) : va_D (AD ad) (WL ad cT M) := by
  have key : ∀ (k : Nat) (q : Nat × va_E), (WL ad cT M)[k]? = some q → k < SH.length ∧ q.1 = ad k := by
    intro k q hk
    have hl : k < (WL ad cT M).length := (List.getElem?_eq_some_iff.mp hk).1
    have h2 : (WL ad cT M).length = SH.length := by unfold WL; exact List.length_mapIdx
    rw [WL_get] at hk
    cases hs : shp k with
    | none => rw [hs] at hk; cases hk
    | some sh => rw [hs] at hk; cases hk; exact ⟨by omega, rfl⟩
  refine ⟨fun i j p q hi hj e => ?_, fun k q hk => ⟨k, key k q hk⟩⟩
  obtain ⟨h1, h2⟩ := key i p hi
  obtain ⟨h3, h4⟩ := key j q hj
  exact h i j h1 h3 (by rw [← h2, ← h4]; exact e)
def TYS (cT : Nat → ClassId) : List (ClassId × FieldType) := [(cT 0, .int), (cT 1, .byte), (cT 2, .boolean), (cT 3, .object "CellPacks$Pack"), (cT 4, .object "CellPacks$Sheet"), (cT 5, .array .int)]
theorem arrN_s {t c n : Nat} (h : arrN t c = some n) : shp c = some (.inl (t, n)) := by
  unfold arrN at h
  split at h
  · split at h
    · rename_i h1 h2
      cases h; subst h2; exact h1
    · cases h
  · cases h
theorem arrB_s {t c n : Nat} (h : arrB c = some (t, n)) : shp c = some (.inl (t, n)) ∧ (t = 1 ∨ t = 2) := by
  unfold arrB at h
  split at h
  · split at h
    · rename_i h1 h2
      cases h; exact ⟨h1, h2⟩
    · cases h
  · cases h
theorem refA_s {c : Nat} {ts : List Nat} (h : refA c = some ts) : ∃ t, shp c = some (.inr (.inl (t, ts))) := by
  unfold refA at h
  split at h
  · rename_i h1
    cases h; exact ⟨_, h1⟩
  · cases h
theorem fldA_s {c ci k : Nat} {o : Option Nat} (h : fldA c ci k = some o) : ∃ fs, shp c = some (.inr (.inr (ci, fs))) ∧ fs[k]? = some o := by
  unfold fldA at h
  split at h
  · split at h
    · rename_i h1 h2
      subst h2; exact ⟨_, h1, h⟩
    · cases h
  · cases h
theorem clsA_s {c ci : Nat} (h : clsA c = some ci) : ∃ fs, shp c = some (.inr (.inr (ci, fs))) := by
  unfold clsA at h
  split at h
  · rename_i h1
    cases h; exact ⟨_, h1⟩
  · cases h
def refK (o : Option SHP) : Bool := match o with
  | some (.inr (.inl (t, _))) => t == 3 || (t == 4 || t == 5)
  | _ => true
theorem shp_ref0 : ∀ i, i < 98 → refK (shp i) = true := by decide +kernel
theorem shp_lt {i : Nat} {sh : SHP} (h : shp i = some sh) : i < 98 := by
  have := (List.getElem?_eq_some_iff.mp h).1
  exact Nat.lt_of_lt_of_eq this (by decide +kernel)
theorem shp_ref {i t : Nat} {ts : List Nat} (h : shp i = some (.inr (.inl (t, ts)))) : t = 3 ∨ t = 4 ∨ t = 5 := by
  have := shp_ref0 i (shp_lt h)
  rw [h] at this
  simpa [refK] using this
/-- the locals -/
def LH (ad : Nat → Nat) (ls : Array Slot) (nL : Nat) (L : LVs) : Prop := ls.size = nL ∧ L.length = nL ∧ lv_wf ls ∧ ∀ i v, L.getD i none = some v → ls[i]? = some (.val (cz ad v))
def alL (ad : Nat → Nat) (L : LVs) : List (Nat × Value) := (List.range L.length).filterMap fun i => (L.getD i none).map fun v => (i, cz ad v)
theorem alL_mem {L : LVs} {q : Nat × Value} : q ∈ alL ad L ↔ ∃ v, L.getD q.1 none = some v ∧ q.2 = cz ad v := by
  unfold alL
  rw [List.mem_filterMap]
  constructor
  · rintro ⟨i, -, hi⟩
    cases h : L.getD i none with
    | none => rw [h] at hi; cases hi
    | some v => rw [h] at hi; cases hi; exact ⟨v, h, rfl⟩
  · rintro ⟨v, h, e⟩
    refine ⟨q.1, ?_, by rw [h]; simp [← e]⟩
    rw [List.mem_range]
    rcases Nat.lt_or_ge q.1 L.length with z | z
    · exact z
    · rw [List.getD_eq_getElem?_getD, List.getElem?_eq_none z] at h
      cases h
theorem LH.has {ls : Array Slot} {nL : Nat} {L : LVs} (h : LH ad ls nL L) : lv_has ls nL (alL ad L) := ⟨h.1, h.2.2.1, fun q hq => by
  obtain ⟨v, h1, h2⟩ := alL_mem.mp hq
  rw [h.2.2.2 q.1 v h1, h2]⟩
theorem getD_set (L : LVs) (i j : Nat) (o : Option AV) (hi : i < L.length) : (L.set i o).getD j none = if i = j then o else L.getD j none := by
  rw [List.getD_eq_getElem?_getD, List.getD_eq_getElem?_getD, List.getElem?_set]
  by_cases e : i = j
  · rw [if_pos e, if_pos e, if_pos hi]; rfl
  · rw [if_neg e, if_neg e]
theorem clr_len (L : LVs) (i : Nat) : (clr L i).length = L.length := by
  cases i with
  | zero => rfl
  | succ j => rw [show clr L (j + 1) = match isLg (L.getD j none) with | true => L.set j none | false => L from rfl]; split <;> simp
theorem clr_succ (L : LVs) (k : Nat) : clr L (k + 1) = match isLg (L.getD k none) with | true => L.set k none | false => L := rfl
/-- clearing keeps what isn't a long just ahead -/
theorem clr_get {L : LVs} {i j : Nat} {v : AV} (h : (clr L i).getD j none = some v) : L.getD j none = some v ∧ ¬ (j + 1 = i ∧ catA v = 2) := by
  have lg : ∀ w : AV, catA w = 2 → isLg (some w) = true := by
    intro w hw
    rcases w with z | z | k
    · cases hw
    · rfl
    · cases hw
  cases i with
  | zero => exact ⟨h, fun q => by omega⟩
  | succ k =>
    rw [clr_succ] at h
    split at h
    · rename_i hg
      have hk : k < L.length := by
        rcases Nat.lt_or_ge k L.length with q | q
        · exact q
        · rw [List.getD_eq_getElem?_getD, List.getElem?_eq_none q] at hg
          cases hg
      rw [getD_set L k j none hk] at h
      split at h
      · cases h
      · rename_i e
        exact ⟨h, fun q => e (by omega)⟩
    · rename_i hg
      refine ⟨h, fun q => ?_⟩
      have : j = k := by omega
      subst this
      rw [h, lg v q.2] at hg
      cases hg
theorem LH_st1 {ls ls' : Array Slot} {nL i : Nat} {L : LVs} {v : AV} (h : LH ad ls nL L) (hi : i < L.length) (h' : lv_has ls' nL ((i, cz ad v) :: (alL ad L).filter (fun q => !(q.1 == i) && !(q.1 + 1 == i && q.2.category == 2)))) : LH ad ls' nL (st1 L i v) := by
  refine ⟨h'.1, by unfold st1; rw [List.length_set, clr_len]; exact h.2.1, h'.2.1, fun j w hj => ?_⟩
  unfold st1 at hj
  rw [getD_set _ _ _ _ (by rw [clr_len]; exact hi)] at hj
  split at hj
  · rename_i e
    cases hj
    subst e
    exact h'.2.2 (i, cz ad v) List.mem_cons_self
  · rename_i e
    obtain ⟨h1, h2⟩ := clr_get hj
    refine h'.2.2 (j, cz ad w) (List.mem_cons_of_mem _ (List.mem_filter.mpr ⟨alL_mem.mpr ⟨w, h1, rfl⟩, ?_⟩))
    rw [cz_cat]
    by_cases q : j + 1 = i
    · have : ¬ catA w = 2 := fun z => h2 ⟨q, z⟩
      simp [show ¬ j = i from fun z => e z.symm, this]
    · simp [show ¬ j = i from fun z => e z.symm, q]
theorem LH_st2 {ls ls' : Array Slot} {nL i : Nat} {L : LVs} {v : AV} (h : LH ad ls nL L) (hi : i + 1 < L.length) (h' : lv_has ls' nL ((i, cz ad v) :: (alL ad L).filter (fun q => !(q.1 == i) && (!(q.1 == i + 1) && !(q.1 + 1 == i && q.2.category == 2))))) : LH ad ls' nL (st2 L i v) := by
  refine ⟨h'.1, by unfold st2; rw [List.length_set, List.length_set, clr_len]; exact h.2.1, h'.2.1, fun j w hj => ?_⟩
  unfold st2 at hj
  rw [getD_set _ _ _ _ (by rw [List.length_set, clr_len]; omega)] at hj
  split at hj
  · rename_i e
    cases hj
    subst e
    exact h'.2.2 (i, cz ad v) List.mem_cons_self
  · rename_i e
    rw [getD_set _ _ _ _ (by rw [clr_len]; omega)] at hj
    split at hj
    · cases hj
    · rename_i e2
      obtain ⟨h1, h2⟩ := clr_get hj
      refine h'.2.2 (j, cz ad w) (List.mem_cons_of_mem _ (List.mem_filter.mpr ⟨alL_mem.mpr ⟨w, h1, rfl⟩, ?_⟩))
      rw [cz_cat]
      by_cases q : j + 1 = i
      · have : ¬ catA w = 2 := fun z => h2 ⟨q, z⟩
        simp [show ¬ j = i from fun z => e z.symm, show ¬ j = i + 1 from fun z => e2 z.symm, this]
      · simp [show ¬ j = i from fun z => e z.symm, show ¬ j = i + 1 from fun z => e2 z.symm, q]
/-- at a method's entry -/
theorem lay_args : ∀ (as : List AV) (k i : Nat) (v : AV), (lay as).getD i none = some v → (k + i, cz ad v) ∈ lv_args k (as.map (cz ad))
  | [], k, i, v, h => by simp [lay] at h
  | a :: as, k, i, v, h => by
    have hc := cz_cat (ad := ad) a
    rw [List.map_cons, lv_args, hc]
    unfold lay at h
    split at h
    · rename_i h2
      rw [if_pos h2]
      match i, h with
      | 0, h =>
        simp at h
        subst h
        exact List.mem_cons_self
      | 1, h => simp at h
      | i + 2, h =>
        have := lay_args as (k + 2) i v (by simpa using h)
        exact List.mem_cons_of_mem _ (by rw [show k + (i + 2) = k + 2 + i by omega]; exact this)
    · rename_i h2
      rw [if_neg h2]
      match i, h with
      | 0, h =>
        simp at h
        subst h
        exact List.mem_cons_self
      | i + 1, h =>
        have := lay_args as (k + 1) i v (by simpa using h)
        exact List.mem_cons_of_mem _ (by rw [show k + (i + 1) = k + 1 + i by omega]; exact this)
theorem lay_len (as : List AV) : (lg_sl (as.map (cz ad))).length = (lay as).length := by
  induction as with
  | nil => rfl
  | cons a as ih =>
    unfold lg_sl at ih ⊢
    rw [List.map_cons, List.flatMap_cons, List.length_append, ih]
    rcases a with z | z | i
    · simp [lay, catA, cz, Value.category]; omega
    · simp [lay, catA, cz, Value.category]; omega
    · simp [lay, catA, cz, Value.category]; omega
theorem LH_entry (as : List AV) {n : Nat} (h : (lay as).length ≤ n) : LH ad ((lg_sl (as.map (cz ad)) ++ List.replicate (n - (lg_sl (as.map (cz ad))).length) Slot.unset).toArray) n (entL as n) := by
  have h0 := lv_entry (as.map (cz ad)) (n := n) (by rw [lay_len]; exact h)
  refine ⟨h0.1, by unfold entL; rw [List.length_append, List.length_replicate]; omega, h0.2.1, fun i v hv => ?_⟩
  refine h0.2.2 (i, cz ad v) ?_
  have := lay_args (ad := ad) as 0 i v (by
    unfold entL at hv
    rw [List.getD_eq_getElem?_getD] at hv ⊢
    rcases Nat.lt_or_ge i (lay as).length with q | q
    · rw [List.getElem?_append_left q] at hv; exact hv
    · rw [List.getElem?_append_right q, List.getElem?_replicate] at hv
      split at hv <;> cases hv)
  rw [Nat.zero_add] at this
  exact this
end WORLD
