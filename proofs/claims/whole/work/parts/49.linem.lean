/-! the reference reads lines -/
theorem isW_G {t : Int → Int} {s e : Int} : isW t s e wG = true ↔ e - s = 6 ∧ t (s + 0) = 103 ∧ t (s + 1) = 114 ∧ t (s + 2) = 111 ∧ t (s + 3) = 117 ∧ t (s + 4) = 112 ∧ t (s + 5) = 115 := by
  rw [isW_t]
  constructor
  · rintro ⟨h, f⟩
    exact ⟨h, f 0 (by decide), f 1 (by decide), f 2 (by decide), f 3 (by decide), f 4 (by decide), f 5 (by decide)⟩
  · rintro ⟨h, f0, f1, f2, f3, f4, f5⟩
    refine ⟨h, fun j hj => ?_⟩
    have hj : j < 6 := hj
    rcases (show j = 0 ∨ j = 1 ∨ j = 2 ∨ j = 3 ∨ j = 4 ∨ j = 5 by omega) with rfl | rfl | rfl | rfl | rfl | rfl
    · exact f0
    · exact f1
    · exact f2
    · exact f3
    · exact f4
    · exact f5
theorem isW_C {t : Int → Int} {s e : Int} : isW t s e wC = true ↔ e - s = 5 ∧ t (s + 0) = 99 ∧ t (s + 1) = 101 ∧ t (s + 2) = 108 ∧ t (s + 3) = 108 ∧ t (s + 4) = 115 := by
  rw [isW_t]
  constructor
  · rintro ⟨h, f⟩
    exact ⟨h, f 0 (by decide), f 1 (by decide), f 2 (by decide), f 3 (by decide), f 4 (by decide)⟩
  · rintro ⟨h, f0, f1, f2, f3, f4⟩
    refine ⟨h, fun j hj => ?_⟩
    have hj : j < 5 := hj
    rcases (show j = 0 ∨ j = 1 ∨ j = 2 ∨ j = 3 ∨ j = 4 by omega) with rfl | rfl | rfl | rfl | rfl
    · exact f0
    · exact f1
    · exact f2
    · exact f3
    · exact f4
theorem isW_F {t : Int → Int} {s e : Int} : isW t s e wF = true ↔ e - s = 5 ∧ t (s + 0) = 102 ∧ t (s + 1) = 108 ∧ t (s + 2) = 111 ∧ t (s + 3) = 111 ∧ t (s + 4) = 114 := by
  rw [isW_t]
  constructor
  · rintro ⟨h, f⟩
    exact ⟨h, f 0 (by decide), f 1 (by decide), f 2 (by decide), f 3 (by decide), f 4 (by decide)⟩
  · rintro ⟨h, f0, f1, f2, f3, f4⟩
    refine ⟨h, fun j hj => ?_⟩
    have hj : j < 5 := hj
    rcases (show j = 0 ∨ j = 1 ∨ j = 2 ∨ j = 3 ∨ j = 4 by omega) with rfl | rfl | rfl | rfl | rfl
    · exact f0
    · exact f1
    · exact f2
    · exact f3
    · exact f4
theorem isW_R {t : Int → Int} {s e : Int} : isW t s e wR = true ↔ e - s = 4 ∧ t (s + 0) = 114 ∧ t (s + 1) = 97 ∧ t (s + 2) = 116 ∧ t (s + 3) = 101 := by
  rw [isW_t]
  constructor
  · rintro ⟨h, f⟩
    exact ⟨h, f 0 (by decide), f 1 (by decide), f 2 (by decide), f 3 (by decide)⟩
  · rintro ⟨h, f0, f1, f2, f3⟩
    refine ⟨h, fun j hj => ?_⟩
    have hj : j < 4 := hj
    rcases (show j = 0 ∨ j = 1 ∨ j = 2 ∨ j = 3 by omega) with rfl | rfl | rfl | rfl
    · exact f0
    · exact f1
    · exact f2
    · exact f3
theorem isW_S {t : Int → Int} {s e : Int} : isW t s e wS = true ↔ e - s = 5 ∧ t (s + 0) = 115 ∧ t (s + 1) = 108 ∧ t (s + 2) = 97 ∧ t (s + 3) = 99 ∧ t (s + 4) = 107 := by
  rw [isW_t]
  constructor
  · rintro ⟨h, f⟩
    exact ⟨h, f 0 (by decide), f 1 (by decide), f 2 (by decide), f 3 (by decide), f 4 (by decide)⟩
  · rintro ⟨h, f0, f1, f2, f3, f4⟩
    refine ⟨h, fun j hj => ?_⟩
    have hj : j < 5 := hj
    rcases (show j = 0 ∨ j = 1 ∨ j = 2 ∨ j = 3 ∨ j = 4 by omega) with rfl | rfl | rfl | rfl | rfl
    · exact f0
    · exact f1
    · exact f2
    · exact f3
    · exact f4

/-- a token is at hand -/
def TM (N : Mem) (p : Int) : Prop := tK (N 86) (N 80 7) p ≠ 4 ∧ N 80 12 = 0 ∧ N 80 9 = tS (N 86) (N 80 7) p ∧ N 80 10 = srt (tK (N 86) (N 80 7) p) ∧ N 80 8 = tN (N 86) (N 80 7) p ∧ (tK (N 86) (N 80 7) p = 1 → N 80 11 = tV (N 86) (N 80 7) p)
def LK (N : Mem) (p : Int) : Prop := (0 ≤ p ∧ p ≤ N 80 7) ∧ ((tK (N 86) (N 80 7) p = 4 ∧ N 80 12 = 1 ∧ N 80 13 = tS (N 86) (N 80 7) p) ∨ TM N p)
def FrR (N M' : Mem) : Prop := (∀ c, c ≠ 80 → M' c = N c) ∧ ∀ j, j < 8 ∨ 13 < j → M' 80 j = N 80 j
theorem FrR.tr {N Z Z' : Mem} (h : FrR N Z) (h' : FrR Z Z') : FrR N Z' := ⟨fun c hc => (h'.1 c hc).trans (h.1 c hc), fun j hj => (h'.2 j hj).trans (h.2 j hj)⟩
theorem FrR.rf (N : Mem) : FrR N N := ⟨fun _ _ => rfl, fun _ _ => rfl⟩
theorem FrR.fail (N : Mem) (x y : Int) : FrR N (wr (wr N 80 12 x) 80 13 y) := ⟨fun c hc => by rw [wr_n _ _ _ hc, wr_n _ _ _ hc], fun j hj => by rw [wr_s, up_n _ _ (by omega), wr_s, up_n _ _ (by omega)]⟩
theorem NM.lk {N Z : Mem} {p : Int} (h : NM (N 86) (N 80 7) p N Z) (p0 : 0 ≤ p) (p1 : p ≤ N 80 7) : LK Z p := by
  have e7 : Z 80 7 = N 80 7 := h.2.1 7 (by omega)
  have e86 : Z 86 = N 86 := h.1 86 (by decide)
  unfold LK TM
  rw [e7, e86]
  exact ⟨⟨p0, p1⟩, h.2.2⟩
theorem NM.fr {t : Int → Int} {L p : Int} {N Z : Mem} (h : NM t L p N Z) : FrR N Z := ⟨h.1, h.2.1⟩
theorem LK.t {N : Mem} {p : Int} (h : LK N p) (hf : N 80 12 = 0) : TM N p := h.2.resolve_left (fun z => by have := z.2.1; omega)
theorem LK.f {N : Mem} {p : Int} (h : LK N p) (hf : N 80 12 ≠ 0) : tK (N 86) (N 80 7) p = 4 ∧ N 80 12 = 1 ∧ N 80 13 = tS (N 86) (N 80 7) p := h.2.resolve_right (fun z => hf z.2.1)
theorem LK.b {N : Mem} {p : Int} (h : LK N p) : N 80 12 = 0 ∨ N 80 12 = 1 := h.2.elim (fun z => Or.inr z.2.1) (fun z => Or.inl z.2.1)
set_option maxHeartbeats 4000000 in
set_option maxRecDepth 20000 in
theorem cm_reads (D : Nat) (N : Mem) (hT : TpM N) (f0 : 0 ≤ N 80 12) (f1 : N 80 12 ≤ 5) (h8 : N 80 12 = 0 → 0 ≤ N 80 8 ∧ N 80 8 ≤ N 80 7) : CV (D + 1) 115 [.inr (.inr 80)] N (fun M' => (1 ≤ N 80 12 ∧ M' = N) ∨ (N 80 12 = 0 ∧ NM (N 86) (N 80 7) (N 80 8) N M')) := by
  by_cases e : N 80 12 = 0
  · exact (cm_reads0 D N hT (N 80 8) rfl (h8 e).1 (h8 e).2 e).imp fun M' h => Or.inr ⟨e, h⟩
  · exact (cm_reads1 D N (by omega) f1).imp fun M' h => Or.inl ⟨by omega, h⟩
set_option maxHeartbeats 4000000 in
set_option maxRecDepth 20000 in
theorem cm_is (D : Nat) (N : Mem) (hT : TpM N) (s e : Int) (h9 : N 80 9 = s) (h8 : N 80 8 = e) (s0 : 0 ≤ s) (se : s ≤ e) (e1 : e ≤ N 80 7) (r0 : 0 ≤ N 80 10) (r1 : N 80 10 ≤ 5) (n fr a b c x1 x2 x3 : Int) (e1x : s + fr = x1) (e2x : s + fr + 1 = x2) (e3x : s + fr + 2 = x3) (fr0 : 0 ≤ fr) (frn : fr + 3 ≤ n) (n9 : n ≤ 9) (ha : inR a) (hbb : inR b) (hcc : inR c) : CI (D + 1) 113 [.inr (.inr 80), .inl n, .inl fr, .inl a, .inl b, .inl c] N (fun v M' => ((v = 1 ∧ (N 80 10 = 1 ∧ e - s = n ∧ N 86 x1 = a ∧ N 86 x2 = b ∧ N 86 x3 = c)) ∨ (v = 0 ∧ ¬ (N 80 10 = 1 ∧ e - s = n ∧ N 86 x1 = a ∧ N 86 x2 = b ∧ N 86 x3 = c))) ∧ M' = N) := by
  refine mk_C mt_113 rfl (Nat.le_of_ble_eq_true rfl) (L := [some _, some _, some _, some _, some _, some _]) rfl ?_
  obtain ⟨l0, l1, hb⟩ := id hT
  obtain ⟨a0, a1⟩ := id ha
  obtain ⟨b0, b1⟩ := id hbb
  obtain ⟨c0, c1⟩ := id hcc
  subst e1x e2x e3x
  refine w_aload_n ta_113 rfl rfl ?_
  refine w_getI 10 ta_113 rfl rfl rfl ?_
  refine w_iconst ta_113 rfl ?_
  refine w_icmp_ne ta_113 rfl ⟨by omega, by omega⟩ ⟨by omega, by omega⟩ (fun h5 => ?_) (fun h5 => ?_)
  · refine w_iconst ta_113 rfl ?_
    refine w_iret ta_113 rfl (Or.inr ⟨rfl, by omega⟩) ?_
    first
      | exact ⟨_, rfl, Or.inl ⟨rfl, by omega⟩, rfl⟩
      | exact ⟨_, rfl, Or.inr ⟨rfl, by omega⟩, rfl⟩
  · refine w_aload_n ta_113 rfl rfl ?_
    refine w_getIv 8 (v := e) ta_113 rfl rfl rfl h8 ?_
    refine w_aload_n ta_113 rfl rfl ?_
    refine w_getIv 9 (v := s) ta_113 rfl rfl rfl h9 ?_
    refine w_isub ta_113 rfl ?_
    refine w_iload_n ta_113 rfl rfl ?_
    refine w_icmp_ne ta_113 rfl ⟨by omega, by omega⟩ ⟨by omega, by omega⟩ (fun h18 => ?_) (fun h18 => ?_)
    · refine w_iconst ta_113 rfl ?_
      refine w_iret ta_113 rfl (Or.inr ⟨rfl, by omega⟩) ?_
      first
        | exact ⟨_, rfl, Or.inl ⟨rfl, by omega⟩, rfl⟩
        | exact ⟨_, rfl, Or.inr ⟨rfl, by omega⟩, rfl⟩
    · refine w_aload_n ta_113 rfl rfl ?_
      refine w_aload_n ta_113 rfl rfl ?_
      refine w_getIv 9 (v := s) ta_113 rfl rfl rfl h9 ?_
      refine w_iload_n ta_113 rfl rfl ?_
      refine w_iadd ta_113 rfl ?_
      refine w_cI [_, _] _ ta_113 rfl rfl rfl mt_112 rfl rfl rfl rfl (Nat.le_of_ble_eq_true rfl) (fun _ => rfl) rfl (cm_byteAt _ N hT _ (by omega) (by omega)) ?_
      rintro xa Z ⟨hxa, hz⟩
      obtain rfl := hz.symm
      have hxa := (hxa.resolve_right (fun q => by omega)).2
      have kb_xa := hb (s + fr) (by omega) (by omega)
      refine w_iload_n ta_113 rfl rfl ?_
      refine w_icmp_ne ta_113 rfl ⟨by omega, by omega⟩ ⟨by omega, by omega⟩ (fun h32 => ?_) (fun h32 => ?_)
      · refine w_iconst ta_113 rfl ?_
        refine w_iret ta_113 rfl (Or.inr ⟨rfl, by omega⟩) ?_
        first
          | exact ⟨_, rfl, Or.inl ⟨rfl, by omega⟩, rfl⟩
          | exact ⟨_, rfl, Or.inr ⟨rfl, by omega⟩, rfl⟩
      · refine w_aload_n ta_113 rfl rfl ?_
        refine w_aload_n ta_113 rfl rfl ?_
        refine w_getIv 9 (v := s) ta_113 rfl rfl rfl h9 ?_
        refine w_iload_n ta_113 rfl rfl ?_
        refine w_iadd ta_113 rfl ?_
        refine w_iconst ta_113 rfl ?_
        refine w_iadd ta_113 rfl ?_
        refine w_cI [_, _] _ ta_113 rfl rfl rfl mt_112 rfl rfl rfl rfl (Nat.le_of_ble_eq_true rfl) (fun _ => rfl) rfl (cm_byteAt _ N hT _ (by omega) (by omega)) ?_
        rintro ya Z ⟨hya, hz⟩
        obtain rfl := hz.symm
        have hya := (hya.resolve_right (fun q => by omega)).2
        have kb_ya := hb (s + fr + 1) (by omega) (by omega)
        refine w_iload ta_113 rfl rfl ?_
        refine w_icmp_ne ta_113 rfl ⟨by omega, by omega⟩ ⟨by omega, by omega⟩ (fun h49 => ?_) (fun h49 => ?_)
        · refine w_iconst ta_113 rfl ?_
          refine w_iret ta_113 rfl (Or.inr ⟨rfl, by omega⟩) ?_
          first
            | exact ⟨_, rfl, Or.inl ⟨rfl, by omega⟩, rfl⟩
            | exact ⟨_, rfl, Or.inr ⟨rfl, by omega⟩, rfl⟩
        · refine w_aload_n ta_113 rfl rfl ?_
          refine w_aload_n ta_113 rfl rfl ?_
          refine w_getIv 9 (v := s) ta_113 rfl rfl rfl h9 ?_
          refine w_iload_n ta_113 rfl rfl ?_
          refine w_iadd ta_113 rfl ?_
          refine w_iconst ta_113 rfl ?_
          refine w_iadd ta_113 rfl ?_
          refine w_cI [_, _] _ ta_113 rfl rfl rfl mt_112 rfl rfl rfl rfl (Nat.le_of_ble_eq_true rfl) (fun _ => rfl) rfl (cm_byteAt _ N hT _ (by omega) (by omega)) ?_
          rintro za Z ⟨hza, hz⟩
          obtain rfl := hz.symm
          have hza := (hza.resolve_right (fun q => by omega)).2
          have kb_za := hb (s + fr + 2) (by omega) (by omega)
          refine w_iload ta_113 rfl rfl ?_
          refine w_icmp_ne ta_113 rfl ⟨by omega, by omega⟩ ⟨by omega, by omega⟩ (fun h66 => ?_) (fun h66 => ?_)
          · refine w_iconst ta_113 rfl ?_
            refine w_iret ta_113 rfl (Or.inr ⟨rfl, by omega⟩) ?_
            first
              | exact ⟨_, rfl, Or.inl ⟨rfl, by omega⟩, rfl⟩
              | exact ⟨_, rfl, Or.inr ⟨rfl, by omega⟩, rfl⟩
          · refine w_iconst ta_113 rfl ?_
            refine w_goto ta_113 rfl ?_
            refine w_iret ta_113 rfl (Or.inr ⟨rfl, by omega⟩) ?_
            first
              | exact ⟨_, rfl, Or.inl ⟨rfl, by omega⟩, rfl⟩
              | exact ⟨_, rfl, Or.inr ⟨rfl, by omega⟩, rfl⟩
set_option maxHeartbeats 4000000 in
set_option maxRecDepth 20000 in
theorem lp_lineNow_130 (D : Nat) (N : Mem) (hT : TpM N) (s e : Int) (h9 : N 80 9 = s) (h8 : N 80 8 = e) (s0 : 0 ≤ s) (se : s ≤ e) (e1 : e ≤ N 80 7) (r0 : 0 ≤ N 80 10) (r1 : N 80 10 ≤ 5) : Wp (D + 2) 114 (130, [some (.inr (.inr 80))], [], N) (fun r M' => ∃ v, r = some (.inl v) ∧ v = (if N 80 10 = 1 then (if isW (N 86) s e wS = true then 4 else (-4)) else -4) ∧ M' = N) := by
  skip
  refine w_aload_n ta_114 rfl rfl ?_
  refine w_iconst ta_114 rfl ?_
  refine w_iconst ta_114 rfl ?_
  refine w_bipush ta_114 rfl ?_
  refine w_bipush ta_114 rfl ?_
  refine w_bipush ta_114 rfl ?_
  refine w_cI [_, _, _, _, _, _] _ ta_114 rfl rfl rfl mt_113 rfl rfl rfl rfl (Nat.le_of_ble_eq_true rfl) (fun _ => rfl) rfl (cm_is _ N hT s e h9 h8 s0 se e1 r0 r1 5 0 115 108 97 (s + 0) (s + 1) (s + 2) (by omega) (by omega) (by omega) (by omega) (by omega) (by omega) (by decide) (by decide) (by decide)) ?_
  rintro a Z ⟨ha, hz⟩
  obtain rfl := hz.symm
  refine w_if_eq ta_114 rfl ⟨by omega, by omega⟩ (fun h142 => ?_) (fun h142 => ?_)
  · refine w_bipush ta_114 rfl ?_
    refine w_iret ta_114 rfl (Or.inl rfl) ?_
    first
      | (have e0 : isW (N 86) s e wS = true := isW_S.mpr (by omega)
         exact ⟨_, rfl, by rw [if_pos (by omega), if_pos e0], rfl⟩)
      | (have e0 : N 80 10 = 1 → isW (N 86) s e wS = false := fun hso => Bool.eq_false_iff.mpr (fun z => by have := isW_S.mp z; omega)
         refine ⟨_, rfl, ?_, rfl⟩
         by_cases hso : N 80 10 = 1
         · rw [if_pos hso, if_neg (by rw [e0 hso]; decide)]
         · rw [if_neg hso])
  · refine w_aload_n ta_114 rfl rfl ?_
    refine w_iconst ta_114 rfl ?_
    refine w_iconst ta_114 rfl ?_
    refine w_bipush ta_114 rfl ?_
    refine w_bipush ta_114 rfl ?_
    refine w_bipush ta_114 rfl ?_
    refine w_cI [_, _, _, _, _, _] _ ta_114 rfl rfl rfl mt_113 rfl rfl rfl rfl (Nat.le_of_ble_eq_true rfl) (fun _ => rfl) rfl (cm_is _ N hT s e h9 h8 s0 se e1 r0 r1 5 2 97 99 107 (s + 2) (s + 3) (s + 4) (by omega) (by omega) (by omega) (by omega) (by omega) (by omega) (by decide) (by decide) (by decide)) ?_
    rintro b Z ⟨hb, hz⟩
    obtain rfl := hz.symm
    refine w_if_eq ta_114 rfl ⟨by omega, by omega⟩ (fun h157 => ?_) (fun h157 => ?_)
    · refine w_bipush ta_114 rfl ?_
      refine w_iret ta_114 rfl (Or.inl rfl) ?_
      first
        | (have e0 : isW (N 86) s e wS = true := isW_S.mpr (by omega)
           exact ⟨_, rfl, by rw [if_pos (by omega), if_pos e0], rfl⟩)
        | (have e0 : N 80 10 = 1 → isW (N 86) s e wS = false := fun hso => Bool.eq_false_iff.mpr (fun z => by have := isW_S.mp z; omega)
           refine ⟨_, rfl, ?_, rfl⟩
           by_cases hso : N 80 10 = 1
           · rw [if_pos hso, if_neg (by rw [e0 hso]; decide)]
           · rw [if_neg hso])
    · refine w_iconst ta_114 rfl ?_
      refine w_goto ta_114 rfl ?_
      refine w_iret ta_114 rfl (Or.inl rfl) ?_
      first
        | (have e0 : isW (N 86) s e wS = true := isW_S.mpr (by omega)
           exact ⟨_, rfl, by rw [if_pos (by omega), if_pos e0], rfl⟩)
        | (have e0 : N 80 10 = 1 → isW (N 86) s e wS = false := fun hso => Bool.eq_false_iff.mpr (fun z => by have := isW_S.mp z; omega)
           refine ⟨_, rfl, ?_, rfl⟩
           by_cases hso : N 80 10 = 1
           · rw [if_pos hso, if_neg (by rw [e0 hso]; decide)]
           · rw [if_neg hso])
set_option maxHeartbeats 4000000 in
set_option maxRecDepth 20000 in
theorem lp_lineNow_98 (D : Nat) (N : Mem) (hT : TpM N) (s e : Int) (h9 : N 80 9 = s) (h8 : N 80 8 = e) (s0 : 0 ≤ s) (se : s ≤ e) (e1 : e ≤ N 80 7) (r0 : 0 ≤ N 80 10) (r1 : N 80 10 ≤ 5) : Wp (D + 2) 114 (98, [some (.inr (.inr 80))], [], N) (fun r M' => ∃ v, r = some (.inl v) ∧ v = (if N 80 10 = 1 then (if isW (N 86) s e wR = true then 3 else (if isW (N 86) s e wS = true then 4 else (-4))) else -4) ∧ M' = N) := by
  skip
  refine w_aload_n ta_114 rfl rfl ?_
  refine w_iconst ta_114 rfl ?_
  refine w_iconst ta_114 rfl ?_
  refine w_bipush ta_114 rfl ?_
  refine w_bipush ta_114 rfl ?_
  refine w_bipush ta_114 rfl ?_
  refine w_cI [_, _, _, _, _, _] _ ta_114 rfl rfl rfl mt_113 rfl rfl rfl rfl (Nat.le_of_ble_eq_true rfl) (fun _ => rfl) rfl (cm_is _ N hT s e h9 h8 s0 se e1 r0 r1 4 0 114 97 116 (s + 0) (s + 1) (s + 2) (by omega) (by omega) (by omega) (by omega) (by omega) (by omega) (by decide) (by decide) (by decide)) ?_
  rintro a Z ⟨ha, hz⟩
  obtain rfl := hz.symm
  refine w_if_eq ta_114 rfl ⟨by omega, by omega⟩ (fun h110 => ?_) (fun h110 => ?_)
  · have e0 : N 80 10 = 1 → isW (N 86) s e wR = false := fun hso => Bool.eq_false_iff.mpr (fun z => by have := isW_R.mp z; omega)
    refine (lp_lineNow_130 D N hT s e h9 h8 s0 se e1 r0 r1).imp ?_
    rintro r M' ⟨v, hr, hv, hm⟩
    refine ⟨v, hr, ?_, hm⟩
    rw [hv]
    by_cases hso : N 80 10 = 1
    · rw [if_pos hso, if_pos hso, if_neg (show ¬ isW (N 86) s e wR = true by rw [e0 hso]; decide)]
    · rw [if_neg hso, if_neg hso]
  · refine w_aload_n ta_114 rfl rfl ?_
    refine w_iconst ta_114 rfl ?_
    refine w_iconst ta_114 rfl ?_
    refine w_bipush ta_114 rfl ?_
    refine w_bipush ta_114 rfl ?_
    refine w_bipush ta_114 rfl ?_
    refine w_cI [_, _, _, _, _, _] _ ta_114 rfl rfl rfl mt_113 rfl rfl rfl rfl (Nat.le_of_ble_eq_true rfl) (fun _ => rfl) rfl (cm_is _ N hT s e h9 h8 s0 se e1 r0 r1 4 1 97 116 101 (s + 1) (s + 2) (s + 3) (by omega) (by omega) (by omega) (by omega) (by omega) (by omega) (by decide) (by decide) (by decide)) ?_
    rintro b Z ⟨hb, hz⟩
    obtain rfl := hz.symm
    refine w_if_eq ta_114 rfl ⟨by omega, by omega⟩ (fun h125 => ?_) (fun h125 => ?_)
    · have e0 : N 80 10 = 1 → isW (N 86) s e wR = false := fun hso => Bool.eq_false_iff.mpr (fun z => by have := isW_R.mp z; omega)
      refine (lp_lineNow_130 D N hT s e h9 h8 s0 se e1 r0 r1).imp ?_
      rintro r M' ⟨v, hr, hv, hm⟩
      refine ⟨v, hr, ?_, hm⟩
      rw [hv]
      by_cases hso : N 80 10 = 1
      · rw [if_pos hso, if_pos hso, if_neg (show ¬ isW (N 86) s e wR = true by rw [e0 hso]; decide)]
      · rw [if_neg hso, if_neg hso]
    · refine w_iconst ta_114 rfl ?_
      refine w_iret ta_114 rfl (Or.inl rfl) ?_
      have e0 : isW (N 86) s e wR = true := isW_R.mpr (by omega)
      exact ⟨_, rfl, by rw [if_pos (by omega), if_pos e0], rfl⟩
set_option maxHeartbeats 4000000 in
set_option maxRecDepth 20000 in
theorem lp_lineNow_66 (D : Nat) (N : Mem) (hT : TpM N) (s e : Int) (h9 : N 80 9 = s) (h8 : N 80 8 = e) (s0 : 0 ≤ s) (se : s ≤ e) (e1 : e ≤ N 80 7) (r0 : 0 ≤ N 80 10) (r1 : N 80 10 ≤ 5) : Wp (D + 2) 114 (66, [some (.inr (.inr 80))], [], N) (fun r M' => ∃ v, r = some (.inl v) ∧ v = (if N 80 10 = 1 then (if isW (N 86) s e wF = true then 2 else (if isW (N 86) s e wR = true then 3 else (if isW (N 86) s e wS = true then 4 else (-4)))) else -4) ∧ M' = N) := by
  skip
  refine w_aload_n ta_114 rfl rfl ?_
  refine w_iconst ta_114 rfl ?_
  refine w_iconst ta_114 rfl ?_
  refine w_bipush ta_114 rfl ?_
  refine w_bipush ta_114 rfl ?_
  refine w_bipush ta_114 rfl ?_
  refine w_cI [_, _, _, _, _, _] _ ta_114 rfl rfl rfl mt_113 rfl rfl rfl rfl (Nat.le_of_ble_eq_true rfl) (fun _ => rfl) rfl (cm_is _ N hT s e h9 h8 s0 se e1 r0 r1 5 0 102 108 111 (s + 0) (s + 1) (s + 2) (by omega) (by omega) (by omega) (by omega) (by omega) (by omega) (by decide) (by decide) (by decide)) ?_
  rintro a Z ⟨ha, hz⟩
  obtain rfl := hz.symm
  refine w_if_eq ta_114 rfl ⟨by omega, by omega⟩ (fun h78 => ?_) (fun h78 => ?_)
  · have e0 : N 80 10 = 1 → isW (N 86) s e wF = false := fun hso => Bool.eq_false_iff.mpr (fun z => by have := isW_F.mp z; omega)
    refine (lp_lineNow_98 D N hT s e h9 h8 s0 se e1 r0 r1).imp ?_
    rintro r M' ⟨v, hr, hv, hm⟩
    refine ⟨v, hr, ?_, hm⟩
    rw [hv]
    by_cases hso : N 80 10 = 1
    · rw [if_pos hso, if_pos hso, if_neg (show ¬ isW (N 86) s e wF = true by rw [e0 hso]; decide)]
    · rw [if_neg hso, if_neg hso]
  · refine w_aload_n ta_114 rfl rfl ?_
    refine w_iconst ta_114 rfl ?_
    refine w_iconst ta_114 rfl ?_
    refine w_bipush ta_114 rfl ?_
    refine w_bipush ta_114 rfl ?_
    refine w_bipush ta_114 rfl ?_
    refine w_cI [_, _, _, _, _, _] _ ta_114 rfl rfl rfl mt_113 rfl rfl rfl rfl (Nat.le_of_ble_eq_true rfl) (fun _ => rfl) rfl (cm_is _ N hT s e h9 h8 s0 se e1 r0 r1 5 2 111 111 114 (s + 2) (s + 3) (s + 4) (by omega) (by omega) (by omega) (by omega) (by omega) (by omega) (by decide) (by decide) (by decide)) ?_
    rintro b Z ⟨hb, hz⟩
    obtain rfl := hz.symm
    refine w_if_eq ta_114 rfl ⟨by omega, by omega⟩ (fun h93 => ?_) (fun h93 => ?_)
    · have e0 : N 80 10 = 1 → isW (N 86) s e wF = false := fun hso => Bool.eq_false_iff.mpr (fun z => by have := isW_F.mp z; omega)
      refine (lp_lineNow_98 D N hT s e h9 h8 s0 se e1 r0 r1).imp ?_
      rintro r M' ⟨v, hr, hv, hm⟩
      refine ⟨v, hr, ?_, hm⟩
      rw [hv]
      by_cases hso : N 80 10 = 1
      · rw [if_pos hso, if_pos hso, if_neg (show ¬ isW (N 86) s e wF = true by rw [e0 hso]; decide)]
      · rw [if_neg hso, if_neg hso]
    · refine w_iconst ta_114 rfl ?_
      refine w_iret ta_114 rfl (Or.inl rfl) ?_
      have e0 : isW (N 86) s e wF = true := isW_F.mpr (by omega)
      exact ⟨_, rfl, by rw [if_pos (by omega), if_pos e0], rfl⟩
set_option maxHeartbeats 4000000 in
set_option maxRecDepth 20000 in
theorem lp_lineNow_34 (D : Nat) (N : Mem) (hT : TpM N) (s e : Int) (h9 : N 80 9 = s) (h8 : N 80 8 = e) (s0 : 0 ≤ s) (se : s ≤ e) (e1 : e ≤ N 80 7) (r0 : 0 ≤ N 80 10) (r1 : N 80 10 ≤ 5) : Wp (D + 2) 114 (34, [some (.inr (.inr 80))], [], N) (fun r M' => ∃ v, r = some (.inl v) ∧ v = (if N 80 10 = 1 then (if isW (N 86) s e wC = true then 0 else (if isW (N 86) s e wF = true then 2 else (if isW (N 86) s e wR = true then 3 else (if isW (N 86) s e wS = true then 4 else (-4))))) else -4) ∧ M' = N) := by
  skip
  refine w_aload_n ta_114 rfl rfl ?_
  refine w_iconst ta_114 rfl ?_
  refine w_iconst ta_114 rfl ?_
  refine w_bipush ta_114 rfl ?_
  refine w_bipush ta_114 rfl ?_
  refine w_bipush ta_114 rfl ?_
  refine w_cI [_, _, _, _, _, _] _ ta_114 rfl rfl rfl mt_113 rfl rfl rfl rfl (Nat.le_of_ble_eq_true rfl) (fun _ => rfl) rfl (cm_is _ N hT s e h9 h8 s0 se e1 r0 r1 5 0 99 101 108 (s + 0) (s + 1) (s + 2) (by omega) (by omega) (by omega) (by omega) (by omega) (by omega) (by decide) (by decide) (by decide)) ?_
  rintro a Z ⟨ha, hz⟩
  obtain rfl := hz.symm
  refine w_if_eq ta_114 rfl ⟨by omega, by omega⟩ (fun h46 => ?_) (fun h46 => ?_)
  · have e0 : N 80 10 = 1 → isW (N 86) s e wC = false := fun hso => Bool.eq_false_iff.mpr (fun z => by have := isW_C.mp z; omega)
    refine (lp_lineNow_66 D N hT s e h9 h8 s0 se e1 r0 r1).imp ?_
    rintro r M' ⟨v, hr, hv, hm⟩
    refine ⟨v, hr, ?_, hm⟩
    rw [hv]
    by_cases hso : N 80 10 = 1
    · rw [if_pos hso, if_pos hso, if_neg (show ¬ isW (N 86) s e wC = true by rw [e0 hso]; decide)]
    · rw [if_neg hso, if_neg hso]
  · refine w_aload_n ta_114 rfl rfl ?_
    refine w_iconst ta_114 rfl ?_
    refine w_iconst ta_114 rfl ?_
    refine w_bipush ta_114 rfl ?_
    refine w_bipush ta_114 rfl ?_
    refine w_bipush ta_114 rfl ?_
    refine w_cI [_, _, _, _, _, _] _ ta_114 rfl rfl rfl mt_113 rfl rfl rfl rfl (Nat.le_of_ble_eq_true rfl) (fun _ => rfl) rfl (cm_is _ N hT s e h9 h8 s0 se e1 r0 r1 5 2 108 108 115 (s + 2) (s + 3) (s + 4) (by omega) (by omega) (by omega) (by omega) (by omega) (by omega) (by decide) (by decide) (by decide)) ?_
    rintro b Z ⟨hb, hz⟩
    obtain rfl := hz.symm
    refine w_if_eq ta_114 rfl ⟨by omega, by omega⟩ (fun h61 => ?_) (fun h61 => ?_)
    · have e0 : N 80 10 = 1 → isW (N 86) s e wC = false := fun hso => Bool.eq_false_iff.mpr (fun z => by have := isW_C.mp z; omega)
      refine (lp_lineNow_66 D N hT s e h9 h8 s0 se e1 r0 r1).imp ?_
      rintro r M' ⟨v, hr, hv, hm⟩
      refine ⟨v, hr, ?_, hm⟩
      rw [hv]
      by_cases hso : N 80 10 = 1
      · rw [if_pos hso, if_pos hso, if_neg (show ¬ isW (N 86) s e wC = true by rw [e0 hso]; decide)]
      · rw [if_neg hso, if_neg hso]
    · refine w_iconst ta_114 rfl ?_
      refine w_iret ta_114 rfl (Or.inl rfl) ?_
      have e0 : isW (N 86) s e wC = true := isW_C.mpr (by omega)
      exact ⟨_, rfl, by rw [if_pos (by omega), if_pos e0], rfl⟩
set_option maxHeartbeats 4000000 in
set_option maxRecDepth 20000 in
theorem lp_lineNow_0 (D : Nat) (N : Mem) (hT : TpM N) (s e : Int) (h9 : N 80 9 = s) (h8 : N 80 8 = e) (s0 : 0 ≤ s) (se : s ≤ e) (e1 : e ≤ N 80 7) (r0 : 0 ≤ N 80 10) (r1 : N 80 10 ≤ 5) : Wp (D + 2) 114 (0, [some (.inr (.inr 80))], [], N) (fun r M' => ∃ v, r = some (.inl v) ∧ v = (if N 80 10 = 1 then (if isW (N 86) s e wG = true then 1 else (if isW (N 86) s e wC = true then 0 else (if isW (N 86) s e wF = true then 2 else (if isW (N 86) s e wR = true then 3 else (if isW (N 86) s e wS = true then 4 else (-4)))))) else -4) ∧ M' = N) := by
  skip
  refine w_aload_n ta_114 rfl rfl ?_
  refine w_bipush ta_114 rfl ?_
  refine w_iconst ta_114 rfl ?_
  refine w_bipush ta_114 rfl ?_
  refine w_bipush ta_114 rfl ?_
  refine w_bipush ta_114 rfl ?_
  refine w_cI [_, _, _, _, _, _] _ ta_114 rfl rfl rfl mt_113 rfl rfl rfl rfl (Nat.le_of_ble_eq_true rfl) (fun _ => rfl) rfl (cm_is _ N hT s e h9 h8 s0 se e1 r0 r1 6 0 103 114 111 (s + 0) (s + 1) (s + 2) (by omega) (by omega) (by omega) (by omega) (by omega) (by omega) (by decide) (by decide) (by decide)) ?_
  rintro a Z ⟨ha, hz⟩
  obtain rfl := hz.symm
  refine w_if_eq ta_114 rfl ⟨by omega, by omega⟩ (fun h13 => ?_) (fun h13 => ?_)
  · have e0 : N 80 10 = 1 → isW (N 86) s e wG = false := fun hso => Bool.eq_false_iff.mpr (fun z => by have := isW_G.mp z; omega)
    refine (lp_lineNow_34 D N hT s e h9 h8 s0 se e1 r0 r1).imp ?_
    rintro r M' ⟨v, hr, hv, hm⟩
    refine ⟨v, hr, ?_, hm⟩
    rw [hv]
    by_cases hso : N 80 10 = 1
    · rw [if_pos hso, if_pos hso, if_neg (show ¬ isW (N 86) s e wG = true by rw [e0 hso]; decide)]
    · rw [if_neg hso, if_neg hso]
  · refine w_aload_n ta_114 rfl rfl ?_
    refine w_bipush ta_114 rfl ?_
    refine w_iconst ta_114 rfl ?_
    refine w_bipush ta_114 rfl ?_
    refine w_bipush ta_114 rfl ?_
    refine w_bipush ta_114 rfl ?_
    refine w_cI [_, _, _, _, _, _] _ ta_114 rfl rfl rfl mt_113 rfl rfl rfl rfl (Nat.le_of_ble_eq_true rfl) (fun _ => rfl) rfl (cm_is _ N hT s e h9 h8 s0 se e1 r0 r1 6 3 117 112 115 (s + 3) (s + 4) (s + 5) (by omega) (by omega) (by omega) (by omega) (by omega) (by omega) (by decide) (by decide) (by decide)) ?_
    rintro b Z ⟨hb, hz⟩
    obtain rfl := hz.symm
    refine w_if_eq ta_114 rfl ⟨by omega, by omega⟩ (fun h29 => ?_) (fun h29 => ?_)
    · have e0 : N 80 10 = 1 → isW (N 86) s e wG = false := fun hso => Bool.eq_false_iff.mpr (fun z => by have := isW_G.mp z; omega)
      refine (lp_lineNow_34 D N hT s e h9 h8 s0 se e1 r0 r1).imp ?_
      rintro r M' ⟨v, hr, hv, hm⟩
      refine ⟨v, hr, ?_, hm⟩
      rw [hv]
      by_cases hso : N 80 10 = 1
      · rw [if_pos hso, if_pos hso, if_neg (show ¬ isW (N 86) s e wG = true by rw [e0 hso]; decide)]
      · rw [if_neg hso, if_neg hso]
    · refine w_iconst ta_114 rfl ?_
      refine w_iret ta_114 rfl (Or.inl rfl) ?_
      have e0 : isW (N 86) s e wG = true := isW_G.mpr (by omega)
      exact ⟨_, rfl, by rw [if_pos (by omega), if_pos e0], rfl⟩
set_option maxHeartbeats 4000000 in
set_option maxRecDepth 20000 in
theorem cm_lineNow (D : Nat) (N : Mem) (hT : TpM N) (p : Int) (p0 : 0 ≤ p) (p1 : p ≤ N 80 7) (hM : TM N p) : CI (D + 2) 114 [.inr (.inr 80)] N (fun v M' => v = tW (N 86) (N 80 7) p ∧ M' = N) := by
  refine mk_C mt_114 rfl (Nat.le_of_ble_eq_true rfl) (L := [some _]) rfl ?_
  obtain ⟨k4, hf, h9, h10, h8, h11⟩ := id hM
  have kb := tK_b (N 86) (N 80 7) p
  have sb := srt_b kb.1 kb.2
  have nb := tN_b (t := N 86) (L := N 80 7) p1
  have ssb := tS_b (t := N 86) (L := N 80 7) p1
  have nb2 : tS (N 86) (N 80 7) p ≤ tN (N 86) (N 80 7) p := (nS_b (t := N 86) ssb.2).1
  refine (lp_lineNow_0 D N hT _ _ h9 h8 (by omega) nb2 (by omega) (by omega) (by omega)).imp ?_
  rintro r M' ⟨v, hr, hv, hm⟩
  refine ⟨v, hr, ?_, hm⟩
  rw [hv]
  unfold tW
  by_cases e : tK (N 86) (N 80 7) p = 0
  · rw [if_pos e, if_pos (by omega)]; rfl
  · rw [if_neg e, if_neg (by omega)]
def FlM (M' : Mem) (x s : Int) : Prop := M' 80 12 = x ∧ M' 80 13 = s
theorem FlM.mk (N : Mem) (x y : Int) : FlM (wr (wr N 80 12 x) 80 13 y) x y := ⟨by rw [wr_s, up_n _ _ (by decide), wr_s, up_s], by rw [wr_s, up_s]⟩
set_option maxHeartbeats 4000000 in
set_option maxRecDepth 20000 in
theorem lp_rn49 (D : Nat) (Z : Mem) (hT : TpM Z) (lo hi : Int) (f0 : 0 ≤ Z 80 12) (f1 : Z 80 12 ≤ 5) (h8 : Z 80 12 = 0 → 0 ≤ Z 80 8 ∧ Z 80 8 ≤ Z 80 7) : Wp (D + 2) 118 (49, [some (.inr (.inr 80)), some (.inl lo), some (.inl hi), none], [], Z) (fun r M' => ∃ v, r = some (.inl v) ∧ ((1 ≤ Z 80 12 ∧ v = 0 ∧ M' = Z) ∨ (Z 80 12 = 0 ∧ v = Z 80 11 ∧ NM (Z 86) (Z 80 7) (Z 80 8) Z M'))) := by
  skip
  refine w_aload_n ta_118 rfl rfl ?_
  refine w_getI 12 ta_118 rfl rfl rfl ?_
  refine w_if_ne ta_118 rfl ⟨by omega, by omega⟩ (fun h53 => ?_) (fun h53 => ?_)
  · refine w_iconst ta_118 rfl ?_
    refine w_istn_3_4 ta_118 rfl rfl ?_
    refine w_aload_n ta_118 rfl rfl ?_
    refine w_cV [_] _ ta_118 rfl rfl rfl mt_115 rfl rfl rfl rfl (Nat.le_of_ble_eq_true rfl) (fun _ => rfl) rfl (cm_reads _ Z hT f0 f1 h8) ?_
    rintro Z4 hZ4
    refine w_iload_n ta_118 rfl rfl ?_
    refine w_iret ta_118 rfl (Or.inl rfl) ?_
    first
      | exact ⟨_, rfl, Or.inl ⟨by omega, rfl, (hZ4.resolve_right (fun q => h53 q.1)).2⟩⟩
      | exact ⟨_, rfl, Or.inr ⟨h53, rfl, (hZ4.resolve_left (fun q => by have := q.1; omega)).2⟩⟩
  · refine w_aload_n ta_118 rfl rfl ?_
    refine w_getI 11 ta_118 rfl rfl rfl ?_
    refine w_goto ta_118 rfl ?_
    refine w_istn_3_4 ta_118 rfl rfl ?_
    refine w_aload_n ta_118 rfl rfl ?_
    refine w_cV [_] _ ta_118 rfl rfl rfl mt_115 rfl rfl rfl rfl (Nat.le_of_ble_eq_true rfl) (fun _ => rfl) rfl (cm_reads _ Z hT f0 f1 h8) ?_
    rintro Z4 hZ4
    refine w_iload_n ta_118 rfl rfl ?_
    refine w_iret ta_118 rfl (Or.inl rfl) ?_
    first
      | exact ⟨_, rfl, Or.inl ⟨by omega, rfl, (hZ4.resolve_right (fun q => h53 q.1)).2⟩⟩
      | exact ⟨_, rfl, Or.inr ⟨h53, rfl, (hZ4.resolve_left (fun q => by have := q.1; omega)).2⟩⟩
set_option maxHeartbeats 4000000 in
set_option maxRecDepth 20000 in
theorem cm_readNumber (D : Nat) (N : Mem) (hT : TpM N) (p : Int) (p0 : 0 ≤ p) (p1 : p ≤ N 80 7) (hM : TM N p) (lo hi : Int) (hlo : inR lo) (hhi : inR hi) : CI (D + 2) 118 [.inr (.inr 80), .inl lo, .inl hi] N (fun v M' => FrR N M' ∧ ((tK (N 86) (N 80 7) p ≠ 1 ∧ v = 0 ∧ FlM M' 2 (tS (N 86) (N 80 7) p)) ∨ (tK (N 86) (N 80 7) p = 1 ∧ ¬ (lo ≤ tV (N 86) (N 80 7) p ∧ tV (N 86) (N 80 7) p ≤ hi) ∧ v = 0 ∧ FlM M' 3 (tS (N 86) (N 80 7) p)) ∨ (tK (N 86) (N 80 7) p = 1 ∧ (lo ≤ tV (N 86) (N 80 7) p ∧ tV (N 86) (N 80 7) p ≤ hi) ∧ v = tV (N 86) (N 80 7) p ∧ LK M' (tN (N 86) (N 80 7) p)))) := by
  refine mk_C mt_118 rfl (Nat.le_of_ble_eq_true rfl) (L := [some _, some _, some _, none]) rfl ?_
  obtain ⟨k4, hf, h9, h10, h8, h11⟩ := id hM
  have kb := tK_b (N 86) (N 80 7) p
  have sb := srt_b kb.1 kb.2
  obtain ⟨l0, l1, hb⟩ := id hT
  have nb := tN_b (t := N 86) (L := N 80 7) p1
  obtain ⟨lo0, lo1⟩ := id hlo
  obtain ⟨hi0, hi1⟩ := id hhi
  refine w_aload_n ta_118 rfl rfl ?_
  refine w_getIv 12 (v := (0 : Int)) ta_118 rfl rfl rfl hf ?_
  refine w_if_ne ta_118 rfl ⟨by omega, by omega⟩ (fun h4 => ?_) (fun h4 => ?_)
  · exfalso; omega
  · refine w_aload_n ta_118 rfl rfl ?_
    refine w_aload_n ta_118 rfl rfl ?_
    refine w_getIv 10 (v := srt (tK (N 86) (N 80 7) p)) ta_118 rfl rfl rfl h10 ?_
    refine w_iconst ta_118 rfl ?_
    refine w_icmp_ne ta_118 rfl ⟨by omega, by omega⟩ ⟨by omega, by omega⟩ (fun h13 => ?_) (fun h13 => ?_)
    · refine w_iconst ta_118 rfl ?_
      refine w_iconst ta_118 rfl ?_
      refine w_cV [_, _, _] _ ta_118 rfl rfl rfl mt_111 rfl rfl rfl rfl (Nat.le_of_ble_eq_true rfl) (fun _ => rfl) rfl (cm_requires _ N _ 2 (by decide) (by omega) (by omega)) ?_
      rintro Z hZ
      have hz : (tK (N 86) (N 80 7) p ≠ 1 ∧ Z = wr (wr N 80 12 2) 80 13 (N 80 9)) ∨ (tK (N 86) (N 80 7) p = 1 ∧ N = Z) := hZ.elim (fun q => Or.inl ⟨by omega, q.2⟩) (fun q => Or.inr ⟨by omega, q.2.symm⟩)
      have zf2 : Z = wr (wr N 80 12 2) 80 13 (N 80 9) → Z 80 12 = 2 := fun q => by rw [q, wr_s, up_n _ _ (by decide), wr_s, up_s]
      have zf : 0 ≤ Z 80 12 ∧ Z 80 12 ≤ 5 := hz.elim (fun q => by have := zf2 q.2; omega) (fun q => by rw [← q.2]; omega)
      refine w_aload_n ta_118 rfl rfl ?_
      refine w_getI 12 ta_118 rfl rfl rfl ?_
      refine w_if_ne ta_118 rfl ⟨by omega, by omega⟩ (fun h29 => ?_) (fun h29 => ?_)
      · obtain ⟨k1, hz⟩ := hz.resolve_right (fun q => h29 (by rw [← q.2]; exact hf))
        first
          | (have zf := zf2 hz
             have fr : FrR N Z := by rw [hz]; exact FrR.fail _ _ _
             refine (lp_rn49 D Z (hT.of (fr.2 7 (by omega)) (fr.1 86 (by decide))) lo hi (by omega) (by omega) (fun q => by omega)).imp ?_
             rintro r M' ⟨v, hr, q⟩
             obtain ⟨-, hv, hm⟩ := q.resolve_right (fun q => by have := q.1; omega)
             refine ⟨v, hr, by rw [hm]; exact fr, Or.inl ⟨k1, hv, ?_⟩⟩
             rw [hm, hz, h9]
             exact FlM.mk _ _ _)
          | (rcases hz3 with ⟨nb3, e3⟩ | ⟨bd, rfl⟩
             · have fr : FrR N Z3 := by rw [e3]; exact FrR.fail _ _ _
               have zf3 : Z3 80 12 = 3 := by rw [e3, wr_s, up_n _ _ (by decide), wr_s, up_s]
               refine (lp_rn49 D Z3 (hT.of (fr.2 7 (by omega)) (fr.1 86 (by decide))) lo hi (by omega) (by omega) (fun q => by omega)).imp ?_
               rintro r M' ⟨v, hr, q⟩
               obtain ⟨-, hv, hm⟩ := q.resolve_right (fun q => by have := q.1; omega)
               refine ⟨v, hr, by rw [hm]; exact fr, Or.inr (Or.inl ⟨k1, nb3, hv, ?_⟩)⟩
               rw [hm, e3, h9]
               exact FlM.mk _ _ _
             · refine (lp_rn49 D N hT lo hi (by omega) (by omega) (fun q => by rw [h8]; omega)).imp ?_
               rintro r M' ⟨v, hr, q⟩
               obtain ⟨-, hv, hm⟩ := q.resolve_left (fun q => by have := q.1; omega)
               rw [h8] at hm
               exact ⟨v, hr, hm.fr, Or.inr (Or.inr ⟨k1, bd, hv.trans (h11 k1), hm.lk (by omega) (by omega)⟩)⟩)
      · obtain ⟨k1, hz⟩ := hz.resolve_left (fun q => by have := zf2 q.2; omega)
        obtain rfl := hz
        have vb := tV_b k1
        refine w_aload_n ta_118 rfl rfl ?_
        refine w_aload_n ta_118 rfl rfl ?_
        refine w_getIv 11 (v := tV (N 86) (N 80 7) p) ta_118 rfl rfl rfl (h11 k1) ?_
        refine w_i2l ta_118 rfl ⟨by omega, by omega⟩ ?_
        refine w_iload_n ta_118 rfl rfl ?_
        refine w_i2l ta_118 rfl ⟨by omega, by omega⟩ ?_
        refine w_iload_n ta_118 rfl rfl ?_
        refine w_i2l ta_118 rfl ⟨by omega, by omega⟩ ?_
        refine w_cI [_, _, _] _ ta_118 rfl rfl rfl mt_106 rfl rfl rfl rfl (Nat.le_of_ble_eq_true rfl) (fun q => by cases q) rfl (cm_in _ _ lo hi _ (by constructor <;> omega) (by constructor <;> omega) (by constructor <;> omega)) ?_
        rintro u Z1 ⟨hu, hz1⟩
        obtain rfl := hz1.symm
        refine w_iconst ta_118 rfl ?_
        refine w_cV [_, _, _] _ ta_118 rfl rfl rfl mt_111 rfl rfl rfl rfl (Nat.le_of_ble_eq_true rfl) (fun _ => rfl) rfl (cm_requires _ N _ 3 (by omega) (by omega) (by omega)) ?_
        rintro Z3 hZ3
        have hz3 : (¬ (lo ≤ tV (N 86) (N 80 7) p ∧ tV (N 86) (N 80 7) p ≤ hi) ∧ Z3 = wr (wr N 80 12 3) 80 13 (N 80 9)) ∨ ((lo ≤ tV (N 86) (N 80 7) p ∧ tV (N 86) (N 80 7) p ≤ hi) ∧ N = Z3) := hZ3.elim (fun q => Or.inl ⟨by omega, q.2⟩) (fun q => Or.inr ⟨by omega, q.2.symm⟩)
        first
          | (have zf := zf2 hz
             have fr : FrR N Z := by rw [hz]; exact FrR.fail _ _ _
             refine (lp_rn49 D Z (hT.of (fr.2 7 (by omega)) (fr.1 86 (by decide))) lo hi (by omega) (by omega) (fun q => by omega)).imp ?_
             rintro r M' ⟨v, hr, q⟩
             obtain ⟨-, hv, hm⟩ := q.resolve_right (fun q => by have := q.1; omega)
             refine ⟨v, hr, by rw [hm]; exact fr, Or.inl ⟨k1, hv, ?_⟩⟩
             rw [hm, hz, h9]
             exact FlM.mk _ _ _)
          | (rcases hz3 with ⟨nb3, e3⟩ | ⟨bd, rfl⟩
             · have fr : FrR N Z3 := by rw [e3]; exact FrR.fail _ _ _
               have zf3 : Z3 80 12 = 3 := by rw [e3, wr_s, up_n _ _ (by decide), wr_s, up_s]
               refine (lp_rn49 D Z3 (hT.of (fr.2 7 (by omega)) (fr.1 86 (by decide))) lo hi (by omega) (by omega) (fun q => by omega)).imp ?_
               rintro r M' ⟨v, hr, q⟩
               obtain ⟨-, hv, hm⟩ := q.resolve_right (fun q => by have := q.1; omega)
               refine ⟨v, hr, by rw [hm]; exact fr, Or.inr (Or.inl ⟨k1, nb3, hv, ?_⟩)⟩
               rw [hm, e3, h9]
               exact FlM.mk _ _ _
             · refine (lp_rn49 D N hT lo hi (by omega) (by omega) (fun q => by rw [h8]; omega)).imp ?_
               rintro r M' ⟨v, hr, q⟩
               obtain ⟨-, hv, hm⟩ := q.resolve_left (fun q => by have := q.1; omega)
               rw [h8] at hm
               exact ⟨v, hr, hm.fr, Or.inr (Or.inr ⟨k1, bd, hv.trans (h11 k1), hm.lk (by omega) (by omega)⟩)⟩)
    · refine w_iconst ta_118 rfl ?_
      refine w_goto ta_118 rfl ?_
      refine w_iconst ta_118 rfl ?_
      refine w_cV [_, _, _] _ ta_118 rfl rfl rfl mt_111 rfl rfl rfl rfl (Nat.le_of_ble_eq_true rfl) (fun _ => rfl) rfl (cm_requires _ N _ 2 (by decide) (by omega) (by omega)) ?_
      rintro Z hZ
      have hz : (tK (N 86) (N 80 7) p ≠ 1 ∧ Z = wr (wr N 80 12 2) 80 13 (N 80 9)) ∨ (tK (N 86) (N 80 7) p = 1 ∧ N = Z) := hZ.elim (fun q => Or.inl ⟨by omega, q.2⟩) (fun q => Or.inr ⟨by omega, q.2.symm⟩)
      have zf2 : Z = wr (wr N 80 12 2) 80 13 (N 80 9) → Z 80 12 = 2 := fun q => by rw [q, wr_s, up_n _ _ (by decide), wr_s, up_s]
      have zf : 0 ≤ Z 80 12 ∧ Z 80 12 ≤ 5 := hz.elim (fun q => by have := zf2 q.2; omega) (fun q => by rw [← q.2]; omega)
      refine w_aload_n ta_118 rfl rfl ?_
      refine w_getI 12 ta_118 rfl rfl rfl ?_
      refine w_if_ne ta_118 rfl ⟨by omega, by omega⟩ (fun h29 => ?_) (fun h29 => ?_)
      · obtain ⟨k1, hz⟩ := hz.resolve_right (fun q => h29 (by rw [← q.2]; exact hf))
        first
          | (have zf := zf2 hz
             have fr : FrR N Z := by rw [hz]; exact FrR.fail _ _ _
             refine (lp_rn49 D Z (hT.of (fr.2 7 (by omega)) (fr.1 86 (by decide))) lo hi (by omega) (by omega) (fun q => by omega)).imp ?_
             rintro r M' ⟨v, hr, q⟩
             obtain ⟨-, hv, hm⟩ := q.resolve_right (fun q => by have := q.1; omega)
             refine ⟨v, hr, by rw [hm]; exact fr, Or.inl ⟨k1, hv, ?_⟩⟩
             rw [hm, hz, h9]
             exact FlM.mk _ _ _)
          | (rcases hz3 with ⟨nb3, e3⟩ | ⟨bd, rfl⟩
             · have fr : FrR N Z3 := by rw [e3]; exact FrR.fail _ _ _
               have zf3 : Z3 80 12 = 3 := by rw [e3, wr_s, up_n _ _ (by decide), wr_s, up_s]
               refine (lp_rn49 D Z3 (hT.of (fr.2 7 (by omega)) (fr.1 86 (by decide))) lo hi (by omega) (by omega) (fun q => by omega)).imp ?_
               rintro r M' ⟨v, hr, q⟩
               obtain ⟨-, hv, hm⟩ := q.resolve_right (fun q => by have := q.1; omega)
               refine ⟨v, hr, by rw [hm]; exact fr, Or.inr (Or.inl ⟨k1, nb3, hv, ?_⟩)⟩
               rw [hm, e3, h9]
               exact FlM.mk _ _ _
             · refine (lp_rn49 D N hT lo hi (by omega) (by omega) (fun q => by rw [h8]; omega)).imp ?_
               rintro r M' ⟨v, hr, q⟩
               obtain ⟨-, hv, hm⟩ := q.resolve_left (fun q => by have := q.1; omega)
               rw [h8] at hm
               exact ⟨v, hr, hm.fr, Or.inr (Or.inr ⟨k1, bd, hv.trans (h11 k1), hm.lk (by omega) (by omega)⟩)⟩)
      · obtain ⟨k1, hz⟩ := hz.resolve_left (fun q => by have := zf2 q.2; omega)
        obtain rfl := hz
        have vb := tV_b k1
        refine w_aload_n ta_118 rfl rfl ?_
        refine w_aload_n ta_118 rfl rfl ?_
        refine w_getIv 11 (v := tV (N 86) (N 80 7) p) ta_118 rfl rfl rfl (h11 k1) ?_
        refine w_i2l ta_118 rfl ⟨by omega, by omega⟩ ?_
        refine w_iload_n ta_118 rfl rfl ?_
        refine w_i2l ta_118 rfl ⟨by omega, by omega⟩ ?_
        refine w_iload_n ta_118 rfl rfl ?_
        refine w_i2l ta_118 rfl ⟨by omega, by omega⟩ ?_
        refine w_cI [_, _, _] _ ta_118 rfl rfl rfl mt_106 rfl rfl rfl rfl (Nat.le_of_ble_eq_true rfl) (fun q => by cases q) rfl (cm_in _ _ lo hi _ (by constructor <;> omega) (by constructor <;> omega) (by constructor <;> omega)) ?_
        rintro u Z1 ⟨hu, hz1⟩
        obtain rfl := hz1.symm
        refine w_iconst ta_118 rfl ?_
        refine w_cV [_, _, _] _ ta_118 rfl rfl rfl mt_111 rfl rfl rfl rfl (Nat.le_of_ble_eq_true rfl) (fun _ => rfl) rfl (cm_requires _ N _ 3 (by omega) (by omega) (by omega)) ?_
        rintro Z3 hZ3
        have hz3 : (¬ (lo ≤ tV (N 86) (N 80 7) p ∧ tV (N 86) (N 80 7) p ≤ hi) ∧ Z3 = wr (wr N 80 12 3) 80 13 (N 80 9)) ∨ ((lo ≤ tV (N 86) (N 80 7) p ∧ tV (N 86) (N 80 7) p ≤ hi) ∧ N = Z3) := hZ3.elim (fun q => Or.inl ⟨by omega, q.2⟩) (fun q => Or.inr ⟨by omega, q.2.symm⟩)
        first
          | (have zf := zf2 hz
             have fr : FrR N Z := by rw [hz]; exact FrR.fail _ _ _
             refine (lp_rn49 D Z (hT.of (fr.2 7 (by omega)) (fr.1 86 (by decide))) lo hi (by omega) (by omega) (fun q => by omega)).imp ?_
             rintro r M' ⟨v, hr, q⟩
             obtain ⟨-, hv, hm⟩ := q.resolve_right (fun q => by have := q.1; omega)
             refine ⟨v, hr, by rw [hm]; exact fr, Or.inl ⟨k1, hv, ?_⟩⟩
             rw [hm, hz, h9]
             exact FlM.mk _ _ _)
          | (rcases hz3 with ⟨nb3, e3⟩ | ⟨bd, rfl⟩
             · have fr : FrR N Z3 := by rw [e3]; exact FrR.fail _ _ _
               have zf3 : Z3 80 12 = 3 := by rw [e3, wr_s, up_n _ _ (by decide), wr_s, up_s]
               refine (lp_rn49 D Z3 (hT.of (fr.2 7 (by omega)) (fr.1 86 (by decide))) lo hi (by omega) (by omega) (fun q => by omega)).imp ?_
               rintro r M' ⟨v, hr, q⟩
               obtain ⟨-, hv, hm⟩ := q.resolve_right (fun q => by have := q.1; omega)
               refine ⟨v, hr, by rw [hm]; exact fr, Or.inr (Or.inl ⟨k1, nb3, hv, ?_⟩)⟩
               rw [hm, e3, h9]
               exact FlM.mk _ _ _
             · refine (lp_rn49 D N hT lo hi (by omega) (by omega) (fun q => by rw [h8]; omega)).imp ?_
               rintro r M' ⟨v, hr, q⟩
               obtain ⟨-, hv, hm⟩ := q.resolve_left (fun q => by have := q.1; omega)
               rw [h8] at hm
               exact ⟨v, hr, hm.fr, Or.inr (Or.inr ⟨k1, bd, hv.trans (h11 k1), hm.lk (by omega) (by omega)⟩)⟩)
set_option maxHeartbeats 4000000 in
set_option maxRecDepth 20000 in
theorem cm_readNumber1 (D : Nat) (N : Mem) (hT : TpM N) (f0 : 1 ≤ N 80 12) (f1 : N 80 12 ≤ 5) (lo hi : Int) : CI (D + 2) 118 [.inr (.inr 80), .inl lo, .inl hi] N (fun v M' => v = 0 ∧ M' = N) := by
  refine mk_C mt_118 rfl (Nat.le_of_ble_eq_true rfl) (L := [some _, some _, some _, none]) rfl ?_
  refine w_aload_n ta_118 rfl rfl ?_
  refine w_getI 12 ta_118 rfl rfl rfl ?_
  refine w_if_ne ta_118 rfl ⟨by omega, by omega⟩ (fun h4 => ?_) (fun h4 => ?_)
  · refine w_aload_n ta_118 rfl rfl ?_
    refine w_getI 12 ta_118 rfl rfl rfl ?_
    refine w_if_ne ta_118 rfl ⟨by omega, by omega⟩ (fun h29 => ?_) (fun h29 => ?_)
    · refine (lp_rn49 D N hT lo hi (by omega) (by omega) (fun q => by omega)).imp ?_
      rintro r M' ⟨v, hr, q⟩
      obtain ⟨-, hv, hm⟩ := q.resolve_right (fun q => by have := q.1; omega)
      exact ⟨v, hr, hv, hm⟩
    · exfalso; omega
  · exfalso; omega
