/-! the class and the reference side by side -/
def PkR (p : Nat) (M : Mem) (f : Int → Int) : Prop := PkI p M ∧ M p 4 = f 0 ∧ M p 5 = f 1 ∧ M p 6 = f 2 ∧ M p 7 = f 3 ∧ M p 8 = f 4 ∧ ∀ i, 0 ≤ i → i < f 0 → M (p + 1) i = f (5 + i) ∧ M (p + 2) i = f (21 + i) ∧ M (p + 3) i = f (37 + i)
theorem PkR.of {p : Nat} {M Z : Mem} {f g : Int → Int} (h : PkR p M f) (e0 : Z p = M p) (e1 : Z (p + 1) = M (p + 1)) (e2 : Z (p + 2) = M (p + 2)) (e3 : Z (p + 3) = M (p + 3)) (ef : ∀ z, 0 ≤ z → z < 53 → g z = f z) : PkR p Z g := by
  obtain ⟨hI, a0, a1, a2, a3, a4, hc⟩ := h
  have n0 := hI.1
  have n1 := hI.2.1
  refine ⟨?_, ?_, ?_, ?_, ?_, ?_, fun i i0 i1 => ?_⟩
  · unfold PkI
    rw [e0, e1, e2, e3]
    exact hI
  · rw [e0, ef 0 (by omega) (by omega)]; exact a0
  · rw [e0, ef 1 (by omega) (by omega)]; exact a1
  · rw [e0, ef 2 (by omega) (by omega)]; exact a2
  · rw [e0, ef 3 (by omega) (by omega)]; exact a3
  · rw [e0, ef 4 (by omega) (by omega)]; exact a4
  · rw [ef 0 (by omega) (by omega)] at i1
    rw [e1, e2, e3, ef _ (by omega) (by omega), ef _ (by omega) (by omega), ef _ (by omega) (by omega)]
    exact hc i i0 i1
theorem PkR.md {M : Mem} (h : PkR 3 M (M 81)) : MdI M := by
  obtain ⟨hI, a0, a1, a2, a3, a4, hc⟩ := h
  obtain ⟨n0, n1, k0, k1, f0, f1, r0, r1, s0, s1, hA⟩ := pkd_3 hI
  unfold MdI
  rw [← a0, ← a1, ← a2, ← a3, ← a4]
  refine ⟨n0, n1, k0, k1, f0, f1, r0, r1, s0, s1, fun i i0 i1 => ?_⟩
  obtain ⟨c1, c2, c3⟩ := hc i i0 (by omega)
  rw [← c1, ← c2, ← c3]
  exact hA i i0 i1
def Ta (M : Mem) : Prop := TpI M ∧ M 80 7 = M 1 1 ∧ M 86 = M 2
def IM (q : Int) (p : Nat) (M : Mem) : Prop := (M 25 q = 0 ∨ M 25 q = 1) ∧ M 83 q = M 25 q ∧ (M 25 q = 1 → PkR p M (fun z => M 82 (53 * q + z)))
def ShR (q : Int) (c : Nat) (M : Mem) : Prop := -1 ≤ M c 1 ∧ M c 1 ≤ 2 ∧ 0 ≤ M c 2 ∧ M c 2 ≤ 40 ∧ M 95 q = (if M c 1 = -1 then -4 else M c 1) ∧ M 96 q = M c 2 ∧ ∀ j, 0 ≤ j → j < 40 → M 97 (40 * q + j) = M (c + 1) j ∧ inR (M (c + 1) j)
def ShA (M : Mem) : Prop := ShR 0 72 M ∧ ShR 1 74 M ∧ ShR 2 76 M ∧ ShR 3 78 M
/-- THE INVARIANT -/
def INV (M : Mem) : Prop := Ta M ∧ PkR 3 M (M 81) ∧ (M 80 12 = M 0 8 ∧ M 80 25 = M 0 9) ∧ (IM 0 13 M ∧ IM 1 18 M) ∧ ShA M
theorem Ta.of {M Z : Mem} (h : Ta M) (e1 : Z 1 = M 1) (e2 : Z 2 = M 2) (e7 : Z 80 7 = M 80 7) (e86 : Z 86 = M 86) : Ta Z := by
  unfold Ta
  rw [e1, e2, e7, e86]
  exact ⟨h.1.of e1 e2, h.2⟩
theorem Ta.m {M : Mem} (h : Ta M) : TpM M := by
  unfold TpM
  rw [h.2.1, h.2.2]
  exact h.1
theorem IM.of {q : Int} {p : Nat} {M Z : Mem} (h : IM q p M) (e25 : Z 25 = M 25) (e83 : Z 83 = M 83) (e82 : Z 82 = M 82) (e0 : Z p = M p) (e1 : Z (p + 1) = M (p + 1)) (e2 : Z (p + 2) = M (p + 2)) (e3 : Z (p + 3) = M (p + 3)) : IM q p Z := by
  unfold IM
  rw [e25, e83]
  exact ⟨h.1, h.2.1, fun z => (h.2.2 z).of e0 e1 e2 e3 (fun z _ _ => by rw [e82])⟩
theorem ShR.of {q : Int} {c : Nat} {M Z : Mem} (h : ShR q c M) (e0 : Z c = M c) (e1 : Z (c + 1) = M (c + 1)) (e95 : Z 95 = M 95) (e96 : Z 96 = M 96) (e97 : Z 97 = M 97) : ShR q c Z := by
  unfold ShR
  rw [e0, e1, e95, e96, e97]
  exact h
theorem ShA.of {M Z : Mem} (h : ShA M) (e : ∀ c, (72 ≤ c ∧ c ≤ 79) ∨ 95 ≤ c → Z c = M c) : ShA Z :=
  ⟨h.1.of (e 72 (by omega)) (e 73 (by omega)) (e 95 (by omega)) (e 96 (by omega)) (e 97 (by omega)), h.2.1.of (e 74 (by omega)) (e 75 (by omega)) (e 95 (by omega)) (e 96 (by omega)) (e 97 (by omega)), h.2.2.1.of (e 76 (by omega)) (e 77 (by omega)) (e 95 (by omega)) (e 96 (by omega)) (e 97 (by omega)), h.2.2.2.of (e 78 (by omega)) (e 79 (by omega)) (e 95 (by omega)) (e 96 (by omega)) (e 97 (by omega))⟩
/-- all but the pack is kept -/
def Kp (M Z : Mem) : Prop := (∀ c, c = 1 ∨ c = 2 ∨ (13 ≤ c ∧ c ≤ 16) ∨ (18 ≤ c ∧ c ≤ 21) ∨ c = 25 ∨ (72 ≤ c ∧ c ≤ 79) ∨ c = 82 ∨ c = 83 ∨ c = 86 ∨ 95 ≤ c → Z c = M c) ∧ Z 0 8 = M 0 8 ∧ Z 0 9 = M 0 9 ∧ Z 80 7 = M 80 7 ∧ Z 80 12 = M 80 12 ∧ Z 80 25 = M 80 25
theorem INV.kp {M Z : Mem} (h : INV M) (k : Kp M Z) (p : PkR 3 Z (Z 81)) : INV Z := by
  obtain ⟨hT, hP, hF, hM, hS⟩ := h
  obtain ⟨e, a1, a2, a3, a4, a5⟩ := k
  refine ⟨hT.of (e 1 (by omega)) (e 2 (by omega)) a3 (e 86 (by omega)), p, ⟨by rw [a4, a1]; exact hF.1, by rw [a5, a2]; exact hF.2⟩, ⟨hM.1.of (e 25 (by omega)) (e 83 (by omega)) (e 82 (by omega)) (e 13 (by omega)) (e 14 (by omega)) (e 15 (by omega)) (e 16 (by omega)), hM.2.of (e 25 (by omega)) (e 83 (by omega)) (e 82 (by omega)) (e 18 (by omega)) (e 19 (by omega)) (e 20 (by omega)) (e 21 (by omega))⟩, hS.of (fun c hc => e c (by omega))⟩
theorem INV.pk {M : Mem} (h : INV M) : PkI 3 M := h.2.1.1
theorem INV.md {M : Mem} (h : INV M) : MdI M := h.2.1.md
theorem INV.scr {M Z Y : Mem} (h : INV M) (a : Scr M Z) (b : ScM Z Y) : INV Y := by
  refine h.kp ⟨fun c hc => ?_, ?_, ?_, ?_, ?_, ?_⟩ ?_
  · rw [b.1 c (by omega), a c (by omega)]
  · rw [b.1 0 (by omega), a 0 (by omega)]
  · rw [b.1 0 (by omega), a 0 (by omega)]
  · rw [b.2.1, a 80 (by omega)]
  · rw [b.2.2.1, a 80 (by omega)]
  · rw [b.2.2.2, a 80 (by omega)]
  · have g : ∀ c, (3 ≤ c ∧ c ≤ 6) ∨ c = 81 → Y c = M c := fun c hc => by rw [b.1 c (by omega), a c (by omega)]
    exact h.2.1.of (g 3 (by omega)) (g 4 (by omega)) (g 5 (by omega)) (g 6 (by omega)) (fun z _ _ => by rw [g 81 (by omega)])
theorem mCe {M Z : Mem} (e : Z 81 = M 81) : mC Z = mC M := by unfold mC; rw [e]
theorem mHe {M Z : Mem} (e : Z 81 = M 81) : mH Z = mH M := by unfold mH; rw [e]
theorem mGe {M Z : Mem} (e : Z 81 = M 81) : mG Z = mG M := by unfold mG; rw [e]
/-- what the pack and the reference's numbers have in common -/
theorem PkR.eqs {M : Mem} (h : PkR 3 M (M 81)) : (M 81 0 = M 3 4 ∧ M 81 1 = M 3 5 ∧ M 81 2 = M 3 6 ∧ M 81 3 = M 3 7 ∧ M 81 4 = M 3 8) ∧ (∀ i, 0 ≤ i → i < M 3 4 → mC M i = M 4 i) ∧ (∀ i, 0 ≤ i → i < M 3 4 → mH M i = M 5 i) ∧ ∀ i, 0 ≤ i → i < M 3 4 → mG M i = M 6 i := by
  obtain ⟨hI, a0, a1, a2, a3, a4, hc⟩ := h
  exact ⟨⟨a0.symm, a1.symm, a2.symm, a3.symm, a4.symm⟩, fun i i0 i1 => (hc i i0 (by omega)).1.symm, fun i i0 i1 => (hc i i0 (by omega)).2.1.symm, fun i i0 i1 => (hc i i0 (by omega)).2.2.symm⟩
section CG
variable {n k fl rt sl : Int} {ch ch' has has' home home' : Int → Int}
theorem ruZ_cg (w : Int) (h1 : ∀ i, 0 ≤ i → i < n → ch i = ch' i) (h2 : ∀ i, 0 ≤ i → i < n → has i = has' i) (h3 : ∀ i, 0 ≤ i → i < n → home i = home' i) : ruZ w n k fl rt sl ch has home = ruZ w n k fl rt sl ch' has' home' := by
  unfold ruZ
  rw [sumG_cg2 h2 h3, sumZ_cg h2, sumZ_cg h1]
theorem ceZ_cg (x w : Int) (h1 : ∀ i, 0 ≤ i → i < n → ch i = ch' i) (h2 : ∀ i, 0 ≤ i → i < n → has i = has' i) (h3 : ∀ i, 0 ≤ i → i < n → home i = home' i) : ceZ x w n ch has home = ceZ x w n ch' has' home' := by
  unfold ceZ
  by_cases e : 0 ≤ x ∧ x < n
  · rw [if_pos e, if_pos e, h1 x e.1 e.2, h2 x e.1 e.2, h3 x e.1 e.2, rkZ_cg e.1 e.2 h1]
  · rw [if_neg e, if_neg e]
theorem ctZ_cg (g : Int) (h3 : ∀ i, 0 ≤ i → i < n → home i = home' i) : ctZ home n g = ctZ home' n g := sumZ_cg (fun i i0 i1 => by rw [h3 i i0 i1])
theorem btZ_cg (g : Int) (h3 : ∀ i, 0 ≤ i → i < n → home i = home' i) : btZ home n g = btZ home' n g := sumZ_cg (fun i i0 i1 => by rw [h3 i i0 i1])
theorem gpZ_cg (g w : Int) (h2 : ∀ i, 0 ≤ i → i < n → has i = has' i) (h3 : ∀ i, 0 ≤ i → i < n → home i = home' i) : gpZ g w n k fl has home = gpZ g w n k fl has' home' := by
  unfold gpZ
  rw [sumG_cg g h2 h3, ctZ_cg g h3, btZ_cg g h3, stZ_cg (fun i i0 i1 => ⟨h3 i i0 i1, h2 i i0 i1⟩), show abZ home has fl n g = abZ home' has' fl n g from sumZ_cg (fun i i0 i1 => by rw [h3 i i0 i1, h2 i i0 i1])]
theorem woZ_cg (w x : Int) (hk : 1 ≤ k) (h1 : ∀ i, 0 ≤ i → i < n → ch i = ch' i) (h3 : ∀ i, 0 ≤ i → i < n → home i = home' i) : woZ w x ch n k home = woZ w x ch' n k home' := by
  unfold woZ
  rw [waS_cg h1 w hk, sumZ_cg (fun j j0 j1 => by rw [wayZ_cg h1 w hk j j0 j1, h3 j j0 j1])]
theorem reZ_cg (m : Int) (hk : 1 ≤ k) (h1 : ∀ i, 0 ≤ i → i < n → ch i = ch' i) (x : Int) : reZ m ch n k x = reZ m ch' n k x := by
  unfold reZ
  exact sumZ_cg (fun w _ _ => by rw [waS_cg h1 w hk])
theorem boZ_cg (x : Int) (hk : 1 ≤ k) (h1 : ∀ i, 0 ≤ i → i < n → ch i = ch' i) (h3 : ∀ i, 0 ≤ i → i < n → home i = home' i) : boZ x ch n k home = boZ x ch' n k home' := by
  unfold boZ
  rw [sumZ_cg h1, sumG_cg2 h1 h3, reZ_cg _ hk h1]
theorem joZ_cg (x : Int) (h1 : ∀ i, 0 ≤ i → i < n → ch i = ch' i) : joZ x ch n k = joZ x ch' n k := by
  unfold joZ
  rw [(dS_cg h1 k x.toNat).2.1, (dS_cg h1 k x.toNat).2.2]
theorem coZ_cg (w im tl lane size : Int) (h1 : ∀ i, 0 ≤ i → i < n → ch i = ch' i) (h2 : ∀ i, 0 ≤ i → i < n → has i = has' i) (h3 : ∀ i, 0 ≤ i → i < n → home i = home' i) : coZ w im n k tl lane size ch has home = coZ w im n k tl lane size ch' has' home' := by
  unfold coZ
  rw [gcZ_cg h1, show blZ has ch n = blZ has' ch' n from sumZ_cg (fun i i0 i1 => by rw [h1 i i0 i1, h2 i i0 i1]), show egZ home n k = egZ home' n k from sumZ_cg (fun g _ _ => by rw [ctZ_cg g h3])]
theorem plZ_cg (w : Int) (n0 : 0 ≤ n) (hk : 1 ≤ k) (h2 : ∀ i, 0 ≤ i → i < n → has i = has' i) (h3 : ∀ i, 0 ≤ i → i < n → home i = home' i) : plZ w n k fl rt sl has home = plZ w n k fl rt sl has' home' := by
  have q := rt_cg (fl := fl) (rt := rt) (sl := sl) n0 hk h3 200 has has' h2
  unfold plZ
  rw [q.1, sumZ_cg h2, sumZ_cg q.2, sumG_cg2 q.2 h3]
end CG
/-- both answer alike, and the invariant is kept -/
def Agr (zc zm : Nat) (as : List AV) (M : Mem) : Prop := CI 40 zc (.inr (.inr 0) :: as) M (fun v M1 => CI 40 zm (.inr (.inr 80) :: as) M1 (fun v' M2 => v' = v ∧ INV M2))
theorem ag_fault {M : Mem} (h : INV M) : Agr 61 122 [] M := (c_fault 40 M).imp fun v M1 ⟨hv, hm⟩ => (cm_fault 40 M1).imp fun v' M2 ⟨hv', hm'⟩ => by
  subst hm hm'
  exact ⟨by rw [hv', hv]; exact h.2.2.1.1, h⟩
theorem ag_torn {M : Mem} (h : INV M) : Agr 87 190 [] M := (c_torn 40 M).imp fun v M1 ⟨hv, hm⟩ => (cm_torn 40 M1).imp fun v' M2 ⟨hv', hm'⟩ => by
  subst hm hm'
  exact ⟨by rw [hv', hv]; exact h.2.2.1.2, h⟩
theorem ag_rule {M : Mem} (h : INV M) {x : Int} (hx : inR x) : Agr 62 134 [.inl x] M := (c_rule 34 M h.pk x hx).imp fun v M1 ⟨hv, hm⟩ => by
  have e : M1 81 = M 81 := hm 81 (by omega)
  refine (cm_rule 37 M1 (h.md.of e) x hx).imp fun v' M2 ⟨hv', hm'⟩ => ⟨?_, h.scr hm hm'⟩
  obtain ⟨⟨a0, a1, a2, a3, a4⟩, c1, c2, c3⟩ := h.2.1.eqs
  rw [hv', hv, mCe e, mHe e, mGe e, e, a0, a1, a2, a3, a4]
  exact ruZ_cg x c1 c2 c3
theorem ag_cell {M : Mem} (h : INV M) {x w : Int} (hx : inR x) (hw : inR w) : Agr 63 136 [.inl x, .inl w] M := (c_cell 38 M h.pk x w hx hw).imp fun v M1 ⟨hv, hm⟩ => by
  subst hm
  refine (cm_cell 38 M1 h.md x w hx hw).imp fun v' M2 ⟨hv', hm'⟩ => ⟨?_, by rw [hm']; exact h⟩
  obtain ⟨⟨a0, a1, a2, a3, a4⟩, c1, c2, c3⟩ := h.2.1.eqs
  rw [hv', hv, a0]
  exact ceZ_cg x w c1 c2 c3
theorem ag_group {M : Mem} (h : INV M) {x w : Int} (hx : inR x) (hw : inR w) : Agr 64 141 [.inl x, .inl w] M := (c_group 35 M h.pk x w hx hw).imp fun v M1 ⟨hv, hm⟩ => by
  have e : M1 81 = M 81 := hm 81 (by omega)
  refine (cm_group 38 M1 (h.md.of e) x w hx hw).imp fun v' M2 ⟨hv', hm'⟩ => ⟨?_, h.scr hm hm'⟩
  obtain ⟨⟨a0, a1, a2, a3, a4⟩, c1, c2, c3⟩ := h.2.1.eqs
  rw [hv', hv, mHe e, mGe e, e, a0, a1, a2]
  exact gpZ_cg x w c2 c3
theorem ag_would {M : Mem} (h : INV M) {w x : Int} (hw : inR w) (hx : inR x) : Agr 66 160 [.inl w, .inl x] M := (c_would 19 M h.pk w x hw hx).imp fun v M1 hv => by
  obtain ⟨⟨a0, a1, a2, a3, a4⟩, c1, c2, c3⟩ := h.2.1.eqs
  have hm : Scr M M1 := by
    rcases hv with ⟨-, -, e⟩ | ⟨-, -, -, e⟩ | ⟨-, -, -, e⟩
    · rw [e]; exact Scr.rf _
    · rw [e]; exact Scr.rf _
    · exact e.scr
  have e : M1 81 = M 81 := hm 81 (by omega)
  refine (cm_would 34 M1 (h.md.of e) w x hw hx).imp fun v' M2 hv' => ?_
  rw [mCe e, mGe e, e, a0, a1] at hv'
  have hm' : ScM M1 M2 := by
    rcases hv' with ⟨-, -, e⟩ | ⟨-, -, -, e⟩ | ⟨-, -, -, e⟩
    · rw [e]; exact ScM.rf _
    · rw [e]; exact ScM.rf _
    · exact e
  refine ⟨?_, h.scr hm hm'⟩
  have k0 := h.pk.2.2.1
  rcases hv with ⟨q1, hv, -⟩ | ⟨q1, q2, hv, -⟩ | ⟨q1, q2, hv, -⟩ <;> rcases hv' with ⟨p1, hv', -⟩ | ⟨p1, p2, hv', -⟩ | ⟨p1, p2, hv', -⟩ <;> first
    | (rw [hv', hv]; done)
    | (exfalso; omega)
    | (rw [hv', hv]; exact woZ_cg w x (by omega) c1 c3)
theorem ag_where {M : Mem} (h : INV M) {w x : Int} (hw : inR w) (hx : inR x) : Agr 67 161 [.inl w, .inl x] M := (c_where 19 M h.pk w x hw hx).imp fun v M1 hv => by
  obtain ⟨⟨a0, a1, a2, a3, a4⟩, c1, c2, c3⟩ := h.2.1.eqs
  have hm : Scr M M1 := by
    rcases hv with ⟨-, -, e⟩ | ⟨-, -, -, e⟩ | ⟨-, -, -, e⟩
    · rw [e]; exact Scr.rf _
    · rw [e]; exact Scr.rf _
    · exact e.scr
  have e : M1 81 = M 81 := hm 81 (by omega)
  refine (cm_where 34 M1 (h.md.of e) w x hw hx).imp fun v' M2 hv' => ?_
  rw [mCe e, e, a0, a1] at hv'
  have hm' : ScM M1 M2 := by
    rcases hv' with ⟨-, -, e⟩ | ⟨-, -, -, e⟩ | ⟨-, -, -, e⟩
    · rw [e]; exact ScM.rf _
    · rw [e]; exact ScM.rf _
    · exact e
  refine ⟨?_, h.scr hm hm'⟩
  have k0 := h.pk.2.2.1
  rcases hv with ⟨q1, hv, -⟩ | ⟨q1, q2, hv, -⟩ | ⟨q1, q2, hv, -⟩ <;> rcases hv' with ⟨p1, hv', -⟩ | ⟨p1, p2, hv', -⟩ | ⟨p1, p2, hv', -⟩ <;> first
    | (rw [hv', hv]; done)
    | (exfalso; omega)
    | (rw [hv', hv]; exact wayZ_cg c1 w (by omega) x q1.2.1 q1.2.2)
theorem ag_bound {M : Mem} (h : INV M) {x : Int} (hx : inR x) : Agr 68 164 [.inl x] M := (c_bound 18 M h.pk x hx).imp fun v M1 ⟨hv, hm⟩ => by
  have e : M1 81 = M 81 := hm 81 (by omega)
  refine (cm_bound 33 M1 (h.md.of e) x hx).imp fun v' M2 ⟨hv', hm'⟩ => ⟨?_, h.scr hm hm'⟩
  obtain ⟨⟨a0, a1, a2, a3, a4⟩, c1, c2, c3⟩ := h.2.1.eqs
  have k0 := h.pk.2.2.1
  rw [hv', hv, mCe e, mGe e, e, a0, a1]
  exact boZ_cg x (by omega) c1 c3
theorem ag_joined {M : Mem} (h : INV M) {x : Int} (hx : inR x) : Agr 69 165 [.inl x] M := (c_joined 19 M h.pk x hx).imp fun v M1 ⟨hv, hm⟩ => by
  have e : M1 81 = M 81 := hm 81 (by omega)
  refine (cm_joined 35 M1 (h.md.of e) x hx).imp fun v' M2 ⟨hv', hm'⟩ => ⟨?_, h.scr hm.scr hm'⟩
  obtain ⟨⟨a0, a1, a2, a3, a4⟩, c1, c2, c3⟩ := h.2.1.eqs
  rw [hv', hv, mCe e, e, a0, a1]
  exact joZ_cg x c1
theorem ag_plan {M : Mem} (h : INV M) {x : Int} (hx : inR x) : Agr 79 179 [.inl x] M := (c_plan 33 M h.pk x hx).imp fun v M1 ⟨hv, hm⟩ => by
  have e : M1 81 = M 81 := hm 81 (by omega)
  refine (cm_plan 36 M1 (h.md.of e) x hx).imp fun v' M2 hv' => ?_
  obtain ⟨⟨a0, a1, a2, a3, a4⟩, c1, c2, c3⟩ := h.2.1.eqs
  have k0 := h.pk.2.2.1
  rcases hv' with ⟨p1, hv', e2⟩ | ⟨p1, hv', e2, e3⟩
  · obtain ⟨-, hv⟩ := hv.resolve_right (fun q => p1 q.1)
    exact ⟨by rw [hv', hv], by rw [e2]; exact h.scr hm (ScM.rf _)⟩
  · obtain ⟨-, hv⟩ := hv.resolve_left (fun q => q.1 p1)
    refine ⟨?_, h.kp ⟨fun c hc => ?_, ?_, ?_, ?_, ?_, ?_⟩ (h.2.1.of ?_ ?_ ?_ ?_ (fun z z0 z1 => by rw [e3 z z0 z1, e]))⟩
    · rw [hv', hv, mHe e, mGe e, e, a0, a1, a2, a3, a4]
      exact plZ_cg x h.pk.1 (by omega) c2 c3
    · rw [e2 c (by omega) (by omega) (by omega), hm c (by omega)]
    · rw [e2 0 (by omega) (by omega) (by omega), hm 0 (by omega)]
    · rw [e2 0 (by omega) (by omega) (by omega), hm 0 (by omega)]
    · rw [e2 80 (by omega) (by omega) (by omega), hm 80 (by omega)]
    · rw [e2 80 (by omega) (by omega) (by omega), hm 80 (by omega)]
    · rw [e2 80 (by omega) (by omega) (by omega), hm 80 (by omega)]
    · rw [e2 3 (by omega) (by omega) (by omega), hm 3 (by omega)]
    · rw [e2 _ (by omega) (by omega) (by omega), hm _ (by omega)]
    · rw [e2 _ (by omega) (by omega) (by omega), hm _ (by omega)]
    · rw [e2 _ (by omega) (by omega) (by omega), hm _ (by omega)]
theorem INV.im {M : Mem} (h : INV M) : (∀ j, 0 ≤ j → j < 2 → M 25 j = 0 ∨ M 25 j = 1) ∧ ∀ j, 0 ≤ j → j < 2 → M 83 j = M 25 j := by
  refine ⟨fun j j0 j1 => ?_, fun j j0 j1 => ?_⟩
  · rcases (show j = 0 ∨ j = 1 by omega) with rfl | rfl
    · exact h.2.2.2.1.1.1
    · exact h.2.2.2.1.2.1
  · rcases (show j = 0 ∨ j = 1 by omega) with rfl | rfl
    · exact h.2.2.2.1.1.2.1
    · exact h.2.2.2.1.2.2.1
theorem ShR.l {q : Int} {c : Nat} {M : Mem} (h : ShR q c M) : -4 ≤ M 95 q ∧ M 95 q ≤ 2 ∧ M 95 q ≠ -1 ∧ 0 ≤ M 96 q ∧ M 96 q ≤ 40 := by
  obtain ⟨h1, h2, h3, h4, h5, h6, h7⟩ := h
  rw [h5, h6]
  split <;> omega
theorem ShR.n {q : Int} {c : Nat} {M : Mem} (h : ShR q c M) : mLn (M 95 q) = M c 1 := by
  obtain ⟨h1, h2, h3, h4, h5, h6, h7⟩ := h
  rw [h5]
  unfold mLn
  by_cases e : M c 1 = -1
  · rw [if_pos e, if_pos rfl, e]
  · rw [if_neg e, if_neg (by omega)]
theorem INV.sl {M : Mem} (h : INV M) : ∀ j, 0 ≤ j → j < 4 → -4 ≤ M 95 j ∧ M 95 j ≤ 2 ∧ M 95 j ≠ -1 ∧ 0 ≤ M 96 j ∧ M 96 j ≤ 40 := by
  intro j j0 j1
  obtain ⟨s0, s1, s2, s3⟩ := h.2.2.2.2
  rcases (show j = 0 ∨ j = 1 ∨ j = 2 ∨ j = 3 by omega) with rfl | rfl | rfl | rfl
  · exact s0.l
  · exact s1.l
  · exact s2.l
  · exact s3.l
theorem INV.sr {M : Mem} (h : INV M) : ∀ j, 0 ≤ j → j < 160 → inR (M 97 j) := by
  intro j j0 j1
  obtain ⟨s0, s1, s2, s3⟩ := h.2.2.2.2
  rcases (show j < 40 ∨ (40 ≤ j ∧ j < 80) ∨ (80 ≤ j ∧ j < 120) ∨ 120 ≤ j by omega) with q | q | q | q
  · have := s0.2.2.2.2.2.2 j (by omega) (by omega)
    rw [show (40 : Int) * 0 + j = j by omega] at this
    rw [this.1]; exact this.2
  · have := s1.2.2.2.2.2.2 (j - 40) (by omega) (by omega)
    rw [show (40 : Int) * 1 + (j - 40) = j by omega] at this
    rw [this.1]; exact this.2
  · have := s2.2.2.2.2.2.2 (j - 80) (by omega) (by omega)
    rw [show (40 : Int) * 2 + (j - 80) = j by omega] at this
    rw [this.1]; exact this.2
  · have := s3.2.2.2.2.2.2 (j - 120) (by omega) (by omega)
    rw [show (40 : Int) * 3 + (j - 120) = j by omega] at this
    rw [this.1]; exact this.2
theorem ag_count {M : Mem} (h : INV M) {x : Int} (hx : inR x) : Agr 88 194 [.inl x] M := (c_count 35 M h.pk h.im.1 h.2.2.2.2.1.1 h.2.2.2.2.1.2.1 x hx).imp fun v M1 ⟨hv, hm⟩ => by
  subst hm
  refine (cm_count 38 M1 h.md (fun j j0 j1 => by rw [h.im.2 j j0 j1]; exact h.im.1 j j0 j1) h.sl x hx).imp fun v' M2 ⟨hv', hm'⟩ => ⟨?_, by rw [hm']; exact h⟩
  obtain ⟨⟨a0, a1, a2, a3, a4⟩, c1, c2, c3⟩ := h.2.1.eqs
  rw [hv', hv, a0, a1, h.1.2.1, h.2.2.2.2.1.n, h.2.2.2.2.1.2.2.2.2.2.1, sumZ_cg h.im.2]
  exact coZ_cg x _ _ _ _ c1 c2 c3
