/-! the class reads a text -/
theorem spC_adv (t : Int → Int) (L : Int) (md : Int → Int) : ∀ (d : Nat) (p : Int) (dr ch : Int → Int) (td : Int), (spC t L md d p dr ch td).1 = 0 → p + 1 ≤ (spC t L md d p dr ch td).2.2.1
  | 0, p, dr, ch, td, h => by
    unfold spC at h ⊢
    by_cases a : tK t L p = 4
    · rw [if_pos a] at h; cases h
    · rw [if_neg a] at h ⊢
      by_cases b : tK t L p = 2 ∧ 0 < td
      · rw [if_pos b]; exact tN_1 (by omega)
      · rw [if_neg b] at h
        by_cases c : tK t L p ≠ 1
        · rw [if_pos c] at h; cases h
        · rw [if_neg c] at h; cases h
  | d + 1, p, dr, ch, td, h => by
    unfold spC at h ⊢
    by_cases a : tK t L p = 4
    · rw [if_pos a] at h; cases h
    · rw [if_neg a] at h ⊢
      by_cases b : tK t L p = 2 ∧ 0 < td
      · rw [if_pos b]; exact tN_1 (by omega)
      · rw [if_neg b] at h ⊢
        by_cases c : tK t L p ≠ 1
        · rw [if_pos c] at h; cases h
        · rw [if_neg c] at h ⊢
          by_cases e : ¬ (1 ≤ tV t L p ∧ tV t L p ≤ 999)
          · rw [if_pos e] at h; cases h
          · rw [if_neg e] at h ⊢
            have := spC_adv t L md d _ _ _ _ h
            have := tN_1 (t := t) (L := L) (p := p) (by omega)
            omega
theorem spL_adv {t : Int → Int} {L p : Int} {dr ch md : Int → Int} (h : (spL t L p dr ch md).1 = 0) : p + 1 ≤ (spL t L p dr ch md).2.2.1 := by
  unfold spL at h ⊢
  by_cases a : tK t L p = 4
  · rw [if_pos a] at h; cases h
  rw [if_neg a] at h ⊢
  by_cases b : tK t L p = 3
  · rw [if_pos b] at h; cases h
  rw [if_neg b] at h ⊢
  have kb := tK_b t L p
  have n1 := tN_1 (t := t) (L := L) (p := p) (by omega)
  by_cases c : tW t L p = -4
  · rw [if_pos c] at h; cases h
  rw [if_neg c] at h ⊢
  by_cases d : tW t L p = 0
  · rw [if_pos d] at h ⊢
    have := spC_adv t L md _ _ _ _ _ h
    omega
  rw [if_neg d] at h ⊢
  by_cases e : md (tW t L p) = 1
  · rw [if_pos e] at h; cases h
  rw [if_neg e] at h ⊢
  generalize tN t L p = q at *
  unfold spN at h ⊢
  by_cases f : tK t L q = 4
  · rw [if_pos f] at h; cases h
  rw [if_neg f] at h ⊢
  by_cases g : tK t L q ≠ 1
  · rw [if_pos g] at h; cases h
  rw [if_neg g] at h ⊢
  by_cases i : ¬ (loZ (tW t L p) ≤ tV t L q ∧ tV t L q ≤ hiW (tW t L p))
  · rw [if_pos i] at h; cases h
  rw [if_neg i] at h ⊢
  by_cases j : tK t L (tN t L q) = 4
  · rw [if_pos j] at h; cases h
  rw [if_neg j] at h ⊢
  by_cases k : tK t L (tN t L q) ≠ 2
  · rw [if_pos k] at h; cases h
  rw [if_neg k]
  have q1 := tN_1 (t := t) (L := L) (p := q) (by omega)
  have q2 := tN_1 (t := t) (L := L) (p := tN t L q) (by omega)
  show p + 1 ≤ tN t L (tN t L q)
  omega
set_option maxHeartbeats 4000000 in
set_option maxRecDepth 20000 in
theorem c_readSetting (D : Nat) (N : Mem) (hT : TpI N) (p : Int) (dr ch md : Int → Int) (c : Int) (c0 : c = 0 ∨ c = 2 ∨ c = 3 ∨ c = 4) (hR : RdC N p dr ch (upI md (wz c) 1)) : CI (D + 3) 43 [.inr (.inr 23), .inl c] N (fun v M' => LnP N M' v (spN (N 2) (N 1 1) md (wz c) p dr ch)) := by
  refine mk_C mt_43 rfl (Nat.le_of_ble_eq_true rfl) (L := [some _, some _]) rfl ?_
  obtain ⟨hp, p0, p1, hf0, hm8, hmd, hD⟩ := id hR
  obtain ⟨l0, l1, hb⟩ := id hT
  have kb := tK_b (N 2) (N 1 1) p
  refine w_aload_n ta_43 rfl rfl ?_
  refine w_cI [_] _ ta_43 rfl rfl rfl mt_48 rfl rfl rfl rfl (Nat.le_of_ble_eq_true rfl) (fun _ => rfl) rfl (c_nextToken _ N hT (by omega) (by omega)) ?_
  rintro v Z hN
  rw [hp] at hN
  obtain ⟨f1, s1, m1, hc⟩ := hN
  have hv : v = 0 ∨ v = 1 := hc.elim (fun q => Or.inl q.2.1) (fun q => Or.inr q.2.1)
  refine w_if_ne ta_43 rfl ⟨by omega, by omega⟩ (fun h4 => ?_) (fun h4 => ?_)
  · obtain ⟨k4, -, a4, a6, a2, a7⟩ := hc.resolve_left (fun z => by have := z.2.1; omega)
    refine w_aload_n ta_43 rfl rfl ?_
    refine w_getIv 4 (v := tK (N 2) (N 1 1) p) ta_43 rfl rfl rfl a4 ?_
    refine w_iconst ta_43 rfl ?_
    refine w_icmp_eq ta_43 rfl ⟨by omega, by omega⟩ ⟨by omega, by omega⟩ (fun h14 => ?_) (fun h14 => ?_)
    · have vb := tV_b h14
      have lb := loZ_b (wz c)
      have hbb := hiW_b (wz c)
      refine w_aload_n ta_43 rfl rfl ?_
      refine w_getIv 7 (v := tV (N 2) (N 1 1) p) ta_43 rfl rfl rfl (a7 h14) ?_
      refine w_iload_n ta_43 rfl rfl ?_
      refine w_cI [_] _ ta_43 rfl rfl rfl mt_44 rfl rfl rfl rfl (Nat.le_of_ble_eq_true rfl) (fun q => by cases q) rfl (c_lowestOf _ _ c c0) ?_
      rintro lo Z1 ⟨hlo, hz⟩
      obtain rfl := hz.symm
      refine w_iload_n ta_43 rfl rfl ?_
      refine w_cI [_] _ ta_43 rfl rfl rfl mt_45 rfl rfl rfl rfl (Nat.le_of_ble_eq_true rfl) (fun q => by cases q) rfl (c_highestOf _ _ c c0) ?_
      rintro hi Z1 ⟨hhi, hz⟩
      obtain rfl := hz.symm
      refine w_cI [_, _, _] _ ta_43 rfl rfl rfl mt_89 rfl rfl rfl rfl (Nat.le_of_ble_eq_true rfl) (fun q => by cases q) rfl (c_win _ _ lo hi _ (by constructor <;> omega) (by constructor <;> omega) (by constructor <;> omega)) ?_
      rintro u Z1 ⟨hu, hz⟩
      obtain rfl := hz.symm
      refine w_if_ne ta_43 rfl ⟨by omega, by omega⟩ (fun h38 => ?_) (fun h38 => ?_)
      · have bd : loZ (wz c) ≤ tV (N 2) (N 1 1) p ∧ tV (N 2) (N 1 1) p ≤ hiW (wz c) := by omega
        refine w_aload_n ta_43 rfl rfl ?_
        refine w_iload_n ta_43 rfl rfl ?_
        refine w_cV [_, _] _ ta_43 rfl rfl rfl mt_46 rfl rfl rfl rfl (Nat.le_of_ble_eq_true rfl) (fun _ => rfl) rfl (c_putSetting _ Z c c0) ?_
        rintro Z1 hZ1
        rw [a7 h14] at hZ1
        have y23 : Z1 23 = Z 23 := by rw [hZ1, wr_n _ _ _ (by decide)]
        have y1 : Z1 1 = N 1 := by rw [hZ1, wr_n _ _ _ (by decide)]; exact f1 1 (by decide)
        have y2 : Z1 2 = N 2 := by rw [hZ1, wr_n _ _ _ (by decide)]; exact f1 2 (by decide)
        have fr1 : FrL N Z1 := fun x hx => by rw [hZ1, wr_n _ _ _ (by omega)]; exact f1 x (by omega)
        have nb := tN_b (t := N 2) (L := N 1 1) p1
        have nb2 := tN_b (t := N 2) nb.2
        have kb2 := tK_b (N 2) (N 1 1) (tN (N 2) (N 1 1) p)
        refine w_aload_n ta_43 rfl rfl ?_
        refine w_cI [_] _ ta_43 rfl rfl rfl mt_48 rfl rfl rfl rfl (Nat.le_of_ble_eq_true rfl) (fun _ => rfl) rfl (c_nextToken _ Z1 (hT.of y1 y2) (by rw [y23, a6]; omega) (by rw [y23, a6, y1]; omega)) ?_
        rintro v2 Z2 hN2
        rw [y1, y2, y23, a6] at hN2
        obtain ⟨f2, s2, m2, hc2⟩ := hN2
        have hv2 : v2 = 0 ∨ v2 = 1 := hc2.elim (fun q => Or.inl q.2.1) (fun q => Or.inr q.2.1)
        have fr2 : FrL N Z2 := fr1.tr (FrL.of f2)
        refine w_if_eq ta_43 rfl ⟨by omega, by omega⟩ (fun h56 => ?_) (fun h56 => ?_)
        · obtain ⟨k5, -, b2, b3⟩ := hc2.resolve_right (fun z => by have := z.2.1; omega)
          refine w_iconst ta_43 rfl ?_
          refine w_iret ta_43 rfl (Or.inr ⟨rfl, by omega⟩) ?_
          first
            | (have eS : spN (N 2) (N 1 1) md (wz c) p dr ch = (1, tS (N 2) (N 1 1) (tN (N 2) (N 1 1) p), p, dr, ch, md) := by unfold spN; rw [if_neg k4, if_neg (fun z => z h14), if_neg (fun z => z bd), if_pos k5]
               exact ⟨_, rfl, fr2, Or.inr (Or.inr ⟨rfl, by rw [eS]; exact ⟨by show (1 : Int) ≤ 1; omega, by show (1 : Int) ≤ 5; omega, b2, b3⟩⟩)⟩)
            | (have eS : spN (N 2) (N 1 1) md (wz c) p dr ch = (0, 0, tN (N 2) (N 1 1) (tN (N 2) (N 1 1) p), upI dr (wz c) (tV (N 2) (N 1 1) p), ch, upI md (wz c) 1) := by unfold spN; rw [if_neg k4, if_neg (fun z => z h14), if_neg (fun z => z bd), if_neg k5, if_neg (fun z => z h64)]
               refine ⟨_, rfl, fr2, Or.inl ?_⟩
               rw [eS]
               refine ⟨rfl, rfl, b6, ?_, ?_, ?_, ?_, hmd, ?_⟩
               · show 0 ≤ tN (N 2) (N 1 1) (tN (N 2) (N 1 1) p); omega
               · show tN (N 2) (N 1 1) (tN (N 2) (N 1 1) p) ≤ Z2 1 1; rw [f2 1 (by decide), y1]; omega
               · show Z2 23 2 = 0; rw [b2, y23, a2, hf0]
               · show Z2 23 8 = _; rw [m2, y23, m1, hm8]
               · have wb : 1 ≤ wz c ∧ wz c ≤ 4 := by rcases c0 with rfl | rfl | rfl | rfl <;> decide
                 exact hD.st wb.1 wb.2 bd (by rw [f2 8 (by decide), hZ1, wr_s, f1 8 (by decide)]) (by rw [f2 9 (by decide), hZ1, wr_n _ _ _ (by decide), f1 9 (by decide)]) (by rw [f2 10 (by decide), hZ1, wr_n _ _ _ (by decide), f1 10 (by decide)]))
            | (have eS : spN (N 2) (N 1 1) md (wz c) p dr ch = (2, tS (N 2) (N 1 1) (tN (N 2) (N 1 1) p), p, dr, ch, md) := by unfold spN; rw [if_neg k4, if_neg (fun z => z h14), if_neg (fun z => z bd), if_neg k5, if_pos h64]
               rw [eS, hz]
               exact ⟨_, rfl, LnP.fail fr2 rfl (by decide) (by decide) s2 (by omega)⟩)
        · obtain ⟨k5, -, b4, b6, b2, b7⟩ := hc2.resolve_left (fun z => by have := z.2.1; omega)
          refine w_aload_n ta_43 rfl rfl ?_
          refine w_getIv 4 (v := tK (N 2) (N 1 1) (tN (N 2) (N 1 1) p)) ta_43 rfl rfl rfl b4 ?_
          refine w_iconst ta_43 rfl ?_
          refine w_icmp_eq ta_43 rfl ⟨by omega, by omega⟩ ⟨by omega, by omega⟩ (fun h64 => ?_) (fun h64 => ?_)
          · refine w_iconst ta_43 rfl ?_
            refine w_goto ta_43 rfl ?_
            refine w_iret ta_43 rfl (Or.inr ⟨rfl, by omega⟩) ?_
            first
              | (have eS : spN (N 2) (N 1 1) md (wz c) p dr ch = (1, tS (N 2) (N 1 1) (tN (N 2) (N 1 1) p), p, dr, ch, md) := by unfold spN; rw [if_neg k4, if_neg (fun z => z h14), if_neg (fun z => z bd), if_pos k5]
                 exact ⟨_, rfl, fr2, Or.inr (Or.inr ⟨rfl, by rw [eS]; exact ⟨by show (1 : Int) ≤ 1; omega, by show (1 : Int) ≤ 5; omega, b2, b3⟩⟩)⟩)
              | (have eS : spN (N 2) (N 1 1) md (wz c) p dr ch = (0, 0, tN (N 2) (N 1 1) (tN (N 2) (N 1 1) p), upI dr (wz c) (tV (N 2) (N 1 1) p), ch, upI md (wz c) 1) := by unfold spN; rw [if_neg k4, if_neg (fun z => z h14), if_neg (fun z => z bd), if_neg k5, if_neg (fun z => z h64)]
                 refine ⟨_, rfl, fr2, Or.inl ?_⟩
                 rw [eS]
                 refine ⟨rfl, rfl, b6, ?_, ?_, ?_, ?_, hmd, ?_⟩
                 · show 0 ≤ tN (N 2) (N 1 1) (tN (N 2) (N 1 1) p); omega
                 · show tN (N 2) (N 1 1) (tN (N 2) (N 1 1) p) ≤ Z2 1 1; rw [f2 1 (by decide), y1]; omega
                 · show Z2 23 2 = 0; rw [b2, y23, a2, hf0]
                 · show Z2 23 8 = _; rw [m2, y23, m1, hm8]
                 · have wb : 1 ≤ wz c ∧ wz c ≤ 4 := by rcases c0 with rfl | rfl | rfl | rfl <;> decide
                   exact hD.st wb.1 wb.2 bd (by rw [f2 8 (by decide), hZ1, wr_s, f1 8 (by decide)]) (by rw [f2 9 (by decide), hZ1, wr_n _ _ _ (by decide), f1 9 (by decide)]) (by rw [f2 10 (by decide), hZ1, wr_n _ _ _ (by decide), f1 10 (by decide)]))
              | (have eS : spN (N 2) (N 1 1) md (wz c) p dr ch = (2, tS (N 2) (N 1 1) (tN (N 2) (N 1 1) p), p, dr, ch, md) := by unfold spN; rw [if_neg k4, if_neg (fun z => z h14), if_neg (fun z => z bd), if_neg k5, if_pos h64]
                 rw [eS, hz]
                 exact ⟨_, rfl, LnP.fail fr2 rfl (by decide) (by decide) s2 (by omega)⟩)
          · refine w_aload_n ta_43 rfl rfl ?_
            refine w_iconst ta_43 rfl ?_
            refine w_cI [_, _] _ ta_43 rfl rfl rfl mt_51 rfl rfl rfl rfl (Nat.le_of_ble_eq_true rfl) (fun _ => rfl) rfl (c_failC _ Z2 2) ?_
            rintro u2 Z3 ⟨hu2, hz⟩
            refine w_if_eq ta_43 rfl ⟨by omega, by omega⟩ (fun h72 => ?_) (fun h72 => ?_)
            · refine w_iconst ta_43 rfl ?_
              refine w_iret ta_43 rfl (Or.inr ⟨rfl, by omega⟩) ?_
              first
                | (have eS : spN (N 2) (N 1 1) md (wz c) p dr ch = (1, tS (N 2) (N 1 1) (tN (N 2) (N 1 1) p), p, dr, ch, md) := by unfold spN; rw [if_neg k4, if_neg (fun z => z h14), if_neg (fun z => z bd), if_pos k5]
                   exact ⟨_, rfl, fr2, Or.inr (Or.inr ⟨rfl, by rw [eS]; exact ⟨by show (1 : Int) ≤ 1; omega, by show (1 : Int) ≤ 5; omega, b2, b3⟩⟩)⟩)
                | (have eS : spN (N 2) (N 1 1) md (wz c) p dr ch = (0, 0, tN (N 2) (N 1 1) (tN (N 2) (N 1 1) p), upI dr (wz c) (tV (N 2) (N 1 1) p), ch, upI md (wz c) 1) := by unfold spN; rw [if_neg k4, if_neg (fun z => z h14), if_neg (fun z => z bd), if_neg k5, if_neg (fun z => z h64)]
                   refine ⟨_, rfl, fr2, Or.inl ?_⟩
                   rw [eS]
                   refine ⟨rfl, rfl, b6, ?_, ?_, ?_, ?_, hmd, ?_⟩
                   · show 0 ≤ tN (N 2) (N 1 1) (tN (N 2) (N 1 1) p); omega
                   · show tN (N 2) (N 1 1) (tN (N 2) (N 1 1) p) ≤ Z2 1 1; rw [f2 1 (by decide), y1]; omega
                   · show Z2 23 2 = 0; rw [b2, y23, a2, hf0]
                   · show Z2 23 8 = _; rw [m2, y23, m1, hm8]
                   · have wb : 1 ≤ wz c ∧ wz c ≤ 4 := by rcases c0 with rfl | rfl | rfl | rfl <;> decide
                     exact hD.st wb.1 wb.2 bd (by rw [f2 8 (by decide), hZ1, wr_s, f1 8 (by decide)]) (by rw [f2 9 (by decide), hZ1, wr_n _ _ _ (by decide), f1 9 (by decide)]) (by rw [f2 10 (by decide), hZ1, wr_n _ _ _ (by decide), f1 10 (by decide)]))
                | (have eS : spN (N 2) (N 1 1) md (wz c) p dr ch = (2, tS (N 2) (N 1 1) (tN (N 2) (N 1 1) p), p, dr, ch, md) := by unfold spN; rw [if_neg k4, if_neg (fun z => z h14), if_neg (fun z => z bd), if_neg k5, if_pos h64]
                   rw [eS, hz]
                   exact ⟨_, rfl, LnP.fail fr2 rfl (by decide) (by decide) s2 (by omega)⟩)
            · refine w_iconst ta_43 rfl ?_
              refine w_goto ta_43 rfl ?_
              refine w_iret ta_43 rfl (Or.inr ⟨rfl, by omega⟩) ?_
              first
                | (have eS : spN (N 2) (N 1 1) md (wz c) p dr ch = (1, tS (N 2) (N 1 1) (tN (N 2) (N 1 1) p), p, dr, ch, md) := by unfold spN; rw [if_neg k4, if_neg (fun z => z h14), if_neg (fun z => z bd), if_pos k5]
                   exact ⟨_, rfl, fr2, Or.inr (Or.inr ⟨rfl, by rw [eS]; exact ⟨by show (1 : Int) ≤ 1; omega, by show (1 : Int) ≤ 5; omega, b2, b3⟩⟩)⟩)
                | (have eS : spN (N 2) (N 1 1) md (wz c) p dr ch = (0, 0, tN (N 2) (N 1 1) (tN (N 2) (N 1 1) p), upI dr (wz c) (tV (N 2) (N 1 1) p), ch, upI md (wz c) 1) := by unfold spN; rw [if_neg k4, if_neg (fun z => z h14), if_neg (fun z => z bd), if_neg k5, if_neg (fun z => z h64)]
                   refine ⟨_, rfl, fr2, Or.inl ?_⟩
                   rw [eS]
                   refine ⟨rfl, rfl, b6, ?_, ?_, ?_, ?_, hmd, ?_⟩
                   · show 0 ≤ tN (N 2) (N 1 1) (tN (N 2) (N 1 1) p); omega
                   · show tN (N 2) (N 1 1) (tN (N 2) (N 1 1) p) ≤ Z2 1 1; rw [f2 1 (by decide), y1]; omega
                   · show Z2 23 2 = 0; rw [b2, y23, a2, hf0]
                   · show Z2 23 8 = _; rw [m2, y23, m1, hm8]
                   · have wb : 1 ≤ wz c ∧ wz c ≤ 4 := by rcases c0 with rfl | rfl | rfl | rfl <;> decide
                     exact hD.st wb.1 wb.2 bd (by rw [f2 8 (by decide), hZ1, wr_s, f1 8 (by decide)]) (by rw [f2 9 (by decide), hZ1, wr_n _ _ _ (by decide), f1 9 (by decide)]) (by rw [f2 10 (by decide), hZ1, wr_n _ _ _ (by decide), f1 10 (by decide)]))
                | (have eS : spN (N 2) (N 1 1) md (wz c) p dr ch = (2, tS (N 2) (N 1 1) (tN (N 2) (N 1 1) p), p, dr, ch, md) := by unfold spN; rw [if_neg k4, if_neg (fun z => z h14), if_neg (fun z => z bd), if_neg k5, if_pos h64]
                   rw [eS, hz]
                   exact ⟨_, rfl, LnP.fail fr2 rfl (by decide) (by decide) s2 (by omega)⟩)
      · refine w_aload_n ta_43 rfl rfl ?_
        refine w_iconst ta_43 rfl ?_
        refine w_cI [_, _] _ ta_43 rfl rfl rfl mt_51 rfl rfl rfl rfl (Nat.le_of_ble_eq_true rfl) (fun _ => rfl) rfl (c_failC _ Z 3) ?_
        rintro u2 Z2 ⟨hu2, hz⟩
        refine w_iret ta_43 rfl (Or.inr ⟨rfl, by omega⟩) ?_
        have eS : spN (N 2) (N 1 1) md (wz c) p dr ch = (3, tS (N 2) (N 1 1) p, p, dr, ch, md) := by unfold spN; rw [if_neg k4, if_neg (fun z => z h14), if_pos (by omega)]
        rw [eS, hz]
        exact ⟨_, rfl, LnP.fail (FrL.of f1) rfl (by decide) (by decide) s1 hu2⟩
    · refine w_aload_n ta_43 rfl rfl ?_
      refine w_iconst ta_43 rfl ?_
      refine w_cI [_, _] _ ta_43 rfl rfl rfl mt_51 rfl rfl rfl rfl (Nat.le_of_ble_eq_true rfl) (fun _ => rfl) rfl (c_failC _ Z 2) ?_
      rintro u Z2 ⟨hu, hz⟩
      refine w_iret ta_43 rfl (Or.inr ⟨rfl, by omega⟩) ?_
      have eS : spN (N 2) (N 1 1) md (wz c) p dr ch = (2, tS (N 2) (N 1 1) p, p, dr, ch, md) := by unfold spN; rw [if_neg k4, if_pos h14]
      rw [eS, hz]
      exact ⟨_, rfl, LnP.fail (FrL.of f1) rfl (by decide) (by decide) s1 hu⟩
  · obtain ⟨k4, -, a2, a3⟩ := hc.resolve_right (fun z => by have := z.2.1; omega)
    refine w_iconst ta_43 rfl ?_
    refine w_iret ta_43 rfl (Or.inr ⟨rfl, by omega⟩) ?_
    have eS : spN (N 2) (N 1 1) md (wz c) p dr ch = (1, tS (N 2) (N 1 1) p, p, dr, ch, md) := by unfold spN; rw [if_pos k4]
    exact ⟨_, rfl, FrL.of f1, Or.inr (Or.inr ⟨rfl, by rw [eS]; exact ⟨by show (1 : Int) ≤ 1; omega, by show (1 : Int) ≤ 5; omega, a2, a3⟩⟩)⟩
set_option maxHeartbeats 4000000 in
set_option maxRecDepth 20000 in
theorem lp_readCells (D : Nat) (md : Int → Int) : ∀ (d : Nat) (N : Mem) (p td : Int) (dr ch : Int → Int), TpI N → RdC N p dr ch md → dr 0 = 16 - d → 0 ≤ td → td ≤ dr 0 → Wp (D + 3) 47 (2, [some (.inr (.inr 23)), some (.inl td)], [], N) (fun r M' => ∃ v, r = some (.inl v) ∧ LnP N M' v (spC (N 2) (N 1 1) md d p dr ch td)) := by
  intro d
  induction d with
  | zero =>
    intro N p td dr ch hT hR hd t0 t1
    obtain ⟨hp, p0, p1, hf0, hm8, hmd, hD⟩ := id hR
    obtain ⟨l0, l1, hb⟩ := id hT
    have kb := tK_b (N 2) (N 1 1) p
    refine w_iload_n ta_47 rfl rfl ?_
    refine w_bipush ta_47 rfl ?_
    refine w_icmp_gt ta_47 rfl ⟨by omega, by omega⟩ ⟨by omega, by omega⟩ (fun h5 => ?_) (fun h5 => ?_)
    · exfalso; omega
    · refine w_aload_n ta_47 rfl rfl ?_
      refine w_cI [_] _ ta_47 rfl rfl rfl mt_48 rfl rfl rfl rfl (Nat.le_of_ble_eq_true rfl) (fun _ => rfl) rfl (c_nextToken _ N hT (by omega) (by omega)) ?_
      rintro v Z hN
      rw [hp] at hN
      obtain ⟨f1, s1, m1, hc⟩ := hN
      have hv : v = 0 ∨ v = 1 := hc.elim (fun q => Or.inl q.2.1) (fun q => Or.inr q.2.1)
      refine w_if_ne ta_47 rfl ⟨by omega, by omega⟩ (fun h12 => ?_) (fun h12 => ?_)
      · obtain ⟨k4, -, a4, a6, a2, a7⟩ := hc.resolve_left (fun z => by have := z.2.1; omega)
        refine w_aload_n ta_47 rfl rfl ?_
        refine w_getIv 4 (v := tK (N 2) (N 1 1) p) ta_47 rfl rfl rfl a4 ?_
        refine w_iconst ta_47 rfl ?_
        refine w_icmp_ne ta_47 rfl ⟨by omega, by omega⟩ ⟨by omega, by omega⟩ (fun h22 => ?_) (fun h22 => ?_)
        · refine w_aload_n ta_47 rfl rfl ?_
          refine w_getIv 4 (v := tK (N 2) (N 1 1) p) ta_47 rfl rfl rfl a4 ?_
          refine w_iconst ta_47 rfl ?_
          refine w_icmp_eq ta_47 rfl ⟨by omega, by omega⟩ ⟨by omega, by omega⟩ (fun h36 => ?_) (fun h36 => ?_)
          · have e4 : Z 8 4 = dr 0 := by rw [f1 8 (by decide)]; exact hD.1 0 (by omega) (by omega)
            refine w_aload_n ta_47 rfl rfl ?_
            refine w_getR ta_47 rfl rfl ?_
            refine w_getIv 4 (v := dr 0) ta_47 rfl rfl rfl e4 ?_
            refine w_bipush ta_47 rfl ?_
            refine w_icmp_lt ta_47 rfl ⟨by omega, by omega⟩ ⟨by omega, by omega⟩ (fun h54 => ?_) (fun h54 => ?_)
            · exfalso; omega
            · refine w_aload_n ta_47 rfl rfl ?_
              refine w_iconst ta_47 rfl ?_
              refine w_cI [_, _] _ ta_47 rfl rfl rfl mt_51 rfl rfl rfl rfl (Nat.le_of_ble_eq_true rfl) (fun _ => rfl) rfl (c_failC _ Z 5) ?_
              rintro u Z2 ⟨hu, hz⟩
              refine w_iret ta_47 rfl (Or.inr ⟨rfl, by omega⟩) ?_
              have eS : spC (N 2) (N 1 1) md 0 p dr ch td = (5, tS (N 2) (N 1 1) p, p, dr, ch, md) := by unfold spC; rw [if_neg k4, if_neg (by omega), if_neg (fun z => z h36)]
              rw [eS, hz]
              exact ⟨_, rfl, LnP.fail (FrL.of f1) rfl (by decide) (by decide) s1 hu⟩
          · refine w_aload_n ta_47 rfl rfl ?_
            refine w_iconst ta_47 rfl ?_
            refine w_cI [_, _] _ ta_47 rfl rfl rfl mt_51 rfl rfl rfl rfl (Nat.le_of_ble_eq_true rfl) (fun _ => rfl) rfl (c_failC _ Z 2) ?_
            rintro u Z2 ⟨hu, hz⟩
            refine w_iret ta_47 rfl (Or.inr ⟨rfl, by omega⟩) ?_
            have eS : spC (N 2) (N 1 1) md 0 p dr ch td = (2, tS (N 2) (N 1 1) p, p, dr, ch, md) := by unfold spC; rw [if_neg k4, if_neg (by omega), if_pos h36]
            rw [eS, hz]
            exact ⟨_, rfl, LnP.fail (FrL.of f1) rfl (by decide) (by decide) s1 hu⟩
        · refine w_iload_n ta_47 rfl rfl ?_
          refine w_if_le ta_47 rfl ⟨by omega, by omega⟩ (fun h26 => ?_) (fun h26 => ?_)
          · refine w_aload_n ta_47 rfl rfl ?_
            refine w_getIv 4 (v := tK (N 2) (N 1 1) p) ta_47 rfl rfl rfl a4 ?_
            refine w_iconst ta_47 rfl ?_
            refine w_icmp_eq ta_47 rfl ⟨by omega, by omega⟩ ⟨by omega, by omega⟩ (fun h36 => ?_) (fun h36 => ?_)
            · have e4 : Z 8 4 = dr 0 := by rw [f1 8 (by decide)]; exact hD.1 0 (by omega) (by omega)
              refine w_aload_n ta_47 rfl rfl ?_
              refine w_getR ta_47 rfl rfl ?_
              refine w_getIv 4 (v := dr 0) ta_47 rfl rfl rfl e4 ?_
              refine w_bipush ta_47 rfl ?_
              refine w_icmp_lt ta_47 rfl ⟨by omega, by omega⟩ ⟨by omega, by omega⟩ (fun h54 => ?_) (fun h54 => ?_)
              · exfalso; omega
              · refine w_aload_n ta_47 rfl rfl ?_
                refine w_iconst ta_47 rfl ?_
                refine w_cI [_, _] _ ta_47 rfl rfl rfl mt_51 rfl rfl rfl rfl (Nat.le_of_ble_eq_true rfl) (fun _ => rfl) rfl (c_failC _ Z 5) ?_
                rintro u Z2 ⟨hu, hz⟩
                refine w_iret ta_47 rfl (Or.inr ⟨rfl, by omega⟩) ?_
                have eS : spC (N 2) (N 1 1) md 0 p dr ch td = (5, tS (N 2) (N 1 1) p, p, dr, ch, md) := by unfold spC; rw [if_neg k4, if_neg (by omega), if_neg (fun z => z h36)]
                rw [eS, hz]
                exact ⟨_, rfl, LnP.fail (FrL.of f1) rfl (by decide) (by decide) s1 hu⟩
            · refine w_aload_n ta_47 rfl rfl ?_
              refine w_iconst ta_47 rfl ?_
              refine w_cI [_, _] _ ta_47 rfl rfl rfl mt_51 rfl rfl rfl rfl (Nat.le_of_ble_eq_true rfl) (fun _ => rfl) rfl (c_failC _ Z 2) ?_
              rintro u Z2 ⟨hu, hz⟩
              refine w_iret ta_47 rfl (Or.inr ⟨rfl, by omega⟩) ?_
              have eS : spC (N 2) (N 1 1) md 0 p dr ch td = (2, tS (N 2) (N 1 1) p, p, dr, ch, md) := by unfold spC; rw [if_neg k4, if_neg (by omega), if_pos h36]
              rw [eS, hz]
              exact ⟨_, rfl, LnP.fail (FrL.of f1) rfl (by decide) (by decide) s1 hu⟩
          · refine w_iconst ta_47 rfl ?_
            refine w_iret ta_47 rfl (Or.inr ⟨rfl, by omega⟩) ?_
            have eS : spC (N 2) (N 1 1) md 0 p dr ch td = (0, 0, tN (N 2) (N 1 1) p, dr, ch, md) := by unfold spC; rw [if_neg k4, if_pos (by omega)]
            have nb := tN_b (t := N 2) (L := N 1 1) p1
            refine ⟨_, rfl, FrL.of f1, Or.inl ?_⟩
            rw [eS]
            exact ⟨rfl, rfl, a6, by show 0 ≤ tN (N 2) (N 1 1) p; omega, by show tN (N 2) (N 1 1) p ≤ Z 1 1; rw [f1 1 (by decide)]; omega, by show Z 23 2 = 0; rw [a2]; exact hf0, by show Z 23 8 = _; rw [m1]; exact hm8, hmd, hD.of (f1 8 (by decide)) (f1 9 (by decide)) (f1 10 (by decide))⟩
      · obtain ⟨k4, -, a2, a3⟩ := hc.resolve_right (fun z => by have := z.2.1; omega)
        refine w_iconst ta_47 rfl ?_
        refine w_iret ta_47 rfl (Or.inr ⟨rfl, by omega⟩) ?_
        have eS : spC (N 2) (N 1 1) md 0 p dr ch td = (1, tS (N 2) (N 1 1) p, p, dr, ch, md) := by unfold spC; rw [if_pos k4]
        exact ⟨_, rfl, FrL.of f1, Or.inr (Or.inr ⟨rfl, by rw [eS]; exact ⟨by show (1 : Int) ≤ 1; omega, by show (1 : Int) ≤ 5; omega, a2, a3⟩⟩)⟩
  | succ d ih =>
    intro N p td dr ch hT hR hd t0 t1
    obtain ⟨hp, p0, p1, hf0, hm8, hmd, hD⟩ := id hR
    obtain ⟨l0, l1, hb⟩ := id hT
    have kb := tK_b (N 2) (N 1 1) p
    refine w_iload_n ta_47 rfl rfl ?_
    refine w_bipush ta_47 rfl ?_
    refine w_icmp_gt ta_47 rfl ⟨by omega, by omega⟩ ⟨by omega, by omega⟩ (fun h5 => ?_) (fun h5 => ?_)
    · exfalso; omega
    · refine w_aload_n ta_47 rfl rfl ?_
      refine w_cI [_] _ ta_47 rfl rfl rfl mt_48 rfl rfl rfl rfl (Nat.le_of_ble_eq_true rfl) (fun _ => rfl) rfl (c_nextToken _ N hT (by omega) (by omega)) ?_
      rintro v Z hN
      rw [hp] at hN
      obtain ⟨f1, s1, m1, hc⟩ := hN
      have hv : v = 0 ∨ v = 1 := hc.elim (fun q => Or.inl q.2.1) (fun q => Or.inr q.2.1)
      refine w_if_ne ta_47 rfl ⟨by omega, by omega⟩ (fun h12 => ?_) (fun h12 => ?_)
      · obtain ⟨k4, -, a4, a6, a2, a7⟩ := hc.resolve_left (fun z => by have := z.2.1; omega)
        refine w_aload_n ta_47 rfl rfl ?_
        refine w_getIv 4 (v := tK (N 2) (N 1 1) p) ta_47 rfl rfl rfl a4 ?_
        refine w_iconst ta_47 rfl ?_
        refine w_icmp_ne ta_47 rfl ⟨by omega, by omega⟩ ⟨by omega, by omega⟩ (fun h22 => ?_) (fun h22 => ?_)
        · refine w_aload_n ta_47 rfl rfl ?_
          refine w_getIv 4 (v := tK (N 2) (N 1 1) p) ta_47 rfl rfl rfl a4 ?_
          refine w_iconst ta_47 rfl ?_
          refine w_icmp_eq ta_47 rfl ⟨by omega, by omega⟩ ⟨by omega, by omega⟩ (fun h36 => ?_) (fun h36 => ?_)
          · have e4 : Z 8 4 = dr 0 := by rw [f1 8 (by decide)]; exact hD.1 0 (by omega) (by omega)
            refine w_aload_n ta_47 rfl rfl ?_
            refine w_getR ta_47 rfl rfl ?_
            refine w_getIv 4 (v := dr 0) ta_47 rfl rfl rfl e4 ?_
            refine w_bipush ta_47 rfl ?_
            refine w_icmp_lt ta_47 rfl ⟨by omega, by omega⟩ ⟨by omega, by omega⟩ (fun h54 => ?_) (fun h54 => ?_)
            · have vb := tV_b h36
              refine w_aload_n ta_47 rfl rfl ?_
              refine w_getIv 7 (v := tV (N 2) (N 1 1) p) ta_47 rfl rfl rfl (a7 h36) ?_
              refine w_iconst ta_47 rfl ?_
              refine w_sipush ta_47 rfl ?_
              refine w_cI [_, _, _] _ ta_47 rfl rfl rfl mt_89 rfl rfl rfl rfl (Nat.le_of_ble_eq_true rfl) (fun q => by cases q) rfl (c_win _ _ 1 999 _ (by constructor <;> omega) (by decide) (by decide)) ?_
              rintro u Z1 ⟨hu, hz⟩
              obtain rfl := hz.symm
              refine w_if_ne ta_47 rfl ⟨by omega, by omega⟩ (fun h74 => ?_) (fun h74 => ?_)
              · refine w_aload_n ta_47 rfl rfl ?_
                refine w_getR ta_47 rfl rfl ?_
                refine w_aload_n ta_47 rfl rfl ?_
                refine w_getIv 7 (v := tV (N 2) (N 1 1) p) ta_47 rfl rfl rfl (a7 h36) ?_
                refine w_iconst ta_47 rfl ?_
                refine w_cV [_, _, _] _ ta_47 rfl rfl rfl mt_15 rfl rfl rfl rfl (Nat.le_of_ble_eq_true rfl) (fun _ => rfl) rfl (c_append_8 _ Z (tV (N 2) (N 1 1) p) 0 (by omega) (by omega)) ?_
                rintro Z1 hA
                have hDZ : DfC Z dr ch := hD.of (f1 8 (by decide)) (f1 9 (by decide)) (f1 10 (by decide))
                have hD1 := hDZ.ap h54 (by omega) hA
                have g1 : ∀ x, x < 8 ∨ 11 < x → Z1 x = Z x := fun x hx => hA.1 x (by omega) (by omega) (by omega) (by omega)
                have y1 : Z1 1 = N 1 := (g1 1 (by decide)).trans (f1 1 (by decide))
                have y2 : Z1 2 = N 2 := (g1 2 (by decide)).trans (f1 2 (by decide))
                have y23 : Z1 23 = Z 23 := g1 23 (by decide)
                have nb := tN_b (t := N 2) (L := N 1 1) p1
                have hR1 : RdC Z1 (tN (N 2) (N 1 1) p) (upI dr 0 (dr 0 + 1)) (upI ch (dr 0) (tV (N 2) (N 1 1) p)) md := ⟨by rw [y23]; exact a6, by omega, by rw [y1]; omega, by rw [y23, a2]; exact hf0, by rw [y23, m1]; exact hm8, hmd, hD1⟩
                refine w_iinc_1_2 ta_47 rfl rfl ?_
                refine w_goto ta_47 rfl ?_
                have q := ih Z1 (tN (N 2) (N 1 1) p) (td + 1) _ _ (hT.of y1 y2) hR1 (by rw [up_s]; omega) (by omega) (by rw [up_s]; omega)
                refine q.imp ?_
                rintro r M' ⟨w, hr, hL⟩
                refine ⟨w, hr, ?_⟩
                have eS : spC (N 2) (N 1 1) md (d + 1) p dr ch td = spC (N 2) (N 1 1) md d (tN (N 2) (N 1 1) p) (upI dr 0 (dr 0 + 1)) (upI ch (dr 0) (tV (N 2) (N 1 1) p)) (td + 1) := by rw [spC, if_neg k4, if_neg (by omega), if_neg (by omega), if_neg (by omega)]
                rw [eS]
                rw [y1, y2] at hL
                exact ⟨((FrL.of f1).tr (fun x hx => g1 x (by omega))).tr hL.1, hL.2⟩
              · refine w_aload_n ta_47 rfl rfl ?_
                refine w_iconst ta_47 rfl ?_
                refine w_cI [_, _] _ ta_47 rfl rfl rfl mt_51 rfl rfl rfl rfl (Nat.le_of_ble_eq_true rfl) (fun _ => rfl) rfl (c_failC _ Z 3) ?_
                rintro u2 Z2 ⟨hu2, hz⟩
                refine w_iret ta_47 rfl (Or.inr ⟨rfl, by omega⟩) ?_
                have eS : spC (N 2) (N 1 1) md (d + 1) p dr ch td = (3, tS (N 2) (N 1 1) p, p, dr, ch, md) := by unfold spC; rw [if_neg k4, if_neg (by omega), if_neg (fun z => z h36), if_pos (by omega)]
                rw [eS, hz]
                exact ⟨_, rfl, LnP.fail (FrL.of f1) rfl (by decide) (by decide) s1 hu2⟩
            · exfalso; omega
          · refine w_aload_n ta_47 rfl rfl ?_
            refine w_iconst ta_47 rfl ?_
            refine w_cI [_, _] _ ta_47 rfl rfl rfl mt_51 rfl rfl rfl rfl (Nat.le_of_ble_eq_true rfl) (fun _ => rfl) rfl (c_failC _ Z 2) ?_
            rintro u Z2 ⟨hu, hz⟩
            refine w_iret ta_47 rfl (Or.inr ⟨rfl, by omega⟩) ?_
            have eS : spC (N 2) (N 1 1) md (d + 1) p dr ch td = (2, tS (N 2) (N 1 1) p, p, dr, ch, md) := by unfold spC; rw [if_neg k4, if_neg (by omega), if_pos h36]
            rw [eS, hz]
            exact ⟨_, rfl, LnP.fail (FrL.of f1) rfl (by decide) (by decide) s1 hu⟩
        · refine w_iload_n ta_47 rfl rfl ?_
          refine w_if_le ta_47 rfl ⟨by omega, by omega⟩ (fun h26 => ?_) (fun h26 => ?_)
          · refine w_aload_n ta_47 rfl rfl ?_
            refine w_getIv 4 (v := tK (N 2) (N 1 1) p) ta_47 rfl rfl rfl a4 ?_
            refine w_iconst ta_47 rfl ?_
            refine w_icmp_eq ta_47 rfl ⟨by omega, by omega⟩ ⟨by omega, by omega⟩ (fun h36 => ?_) (fun h36 => ?_)
            · have e4 : Z 8 4 = dr 0 := by rw [f1 8 (by decide)]; exact hD.1 0 (by omega) (by omega)
              refine w_aload_n ta_47 rfl rfl ?_
              refine w_getR ta_47 rfl rfl ?_
              refine w_getIv 4 (v := dr 0) ta_47 rfl rfl rfl e4 ?_
              refine w_bipush ta_47 rfl ?_
              refine w_icmp_lt ta_47 rfl ⟨by omega, by omega⟩ ⟨by omega, by omega⟩ (fun h54 => ?_) (fun h54 => ?_)
              · have vb := tV_b h36
                refine w_aload_n ta_47 rfl rfl ?_
                refine w_getIv 7 (v := tV (N 2) (N 1 1) p) ta_47 rfl rfl rfl (a7 h36) ?_
                refine w_iconst ta_47 rfl ?_
                refine w_sipush ta_47 rfl ?_
                refine w_cI [_, _, _] _ ta_47 rfl rfl rfl mt_89 rfl rfl rfl rfl (Nat.le_of_ble_eq_true rfl) (fun q => by cases q) rfl (c_win _ _ 1 999 _ (by constructor <;> omega) (by decide) (by decide)) ?_
                rintro u Z1 ⟨hu, hz⟩
                obtain rfl := hz.symm
                refine w_if_ne ta_47 rfl ⟨by omega, by omega⟩ (fun h74 => ?_) (fun h74 => ?_)
                · refine w_aload_n ta_47 rfl rfl ?_
                  refine w_getR ta_47 rfl rfl ?_
                  refine w_aload_n ta_47 rfl rfl ?_
                  refine w_getIv 7 (v := tV (N 2) (N 1 1) p) ta_47 rfl rfl rfl (a7 h36) ?_
                  refine w_iconst ta_47 rfl ?_
                  refine w_cV [_, _, _] _ ta_47 rfl rfl rfl mt_15 rfl rfl rfl rfl (Nat.le_of_ble_eq_true rfl) (fun _ => rfl) rfl (c_append_8 _ Z (tV (N 2) (N 1 1) p) 0 (by omega) (by omega)) ?_
                  rintro Z1 hA
                  have hDZ : DfC Z dr ch := hD.of (f1 8 (by decide)) (f1 9 (by decide)) (f1 10 (by decide))
                  have hD1 := hDZ.ap h54 (by omega) hA
                  have g1 : ∀ x, x < 8 ∨ 11 < x → Z1 x = Z x := fun x hx => hA.1 x (by omega) (by omega) (by omega) (by omega)
                  have y1 : Z1 1 = N 1 := (g1 1 (by decide)).trans (f1 1 (by decide))
                  have y2 : Z1 2 = N 2 := (g1 2 (by decide)).trans (f1 2 (by decide))
                  have y23 : Z1 23 = Z 23 := g1 23 (by decide)
                  have nb := tN_b (t := N 2) (L := N 1 1) p1
                  have hR1 : RdC Z1 (tN (N 2) (N 1 1) p) (upI dr 0 (dr 0 + 1)) (upI ch (dr 0) (tV (N 2) (N 1 1) p)) md := ⟨by rw [y23]; exact a6, by omega, by rw [y1]; omega, by rw [y23, a2]; exact hf0, by rw [y23, m1]; exact hm8, hmd, hD1⟩
                  refine w_iinc_1_2 ta_47 rfl rfl ?_
                  refine w_goto ta_47 rfl ?_
                  have q := ih Z1 (tN (N 2) (N 1 1) p) (td + 1) _ _ (hT.of y1 y2) hR1 (by rw [up_s]; omega) (by omega) (by rw [up_s]; omega)
                  refine q.imp ?_
                  rintro r M' ⟨w, hr, hL⟩
                  refine ⟨w, hr, ?_⟩
                  have eS : spC (N 2) (N 1 1) md (d + 1) p dr ch td = spC (N 2) (N 1 1) md d (tN (N 2) (N 1 1) p) (upI dr 0 (dr 0 + 1)) (upI ch (dr 0) (tV (N 2) (N 1 1) p)) (td + 1) := by rw [spC, if_neg k4, if_neg (by omega), if_neg (by omega), if_neg (by omega)]
                  rw [eS]
                  rw [y1, y2] at hL
                  exact ⟨((FrL.of f1).tr (fun x hx => g1 x (by omega))).tr hL.1, hL.2⟩
                · refine w_aload_n ta_47 rfl rfl ?_
                  refine w_iconst ta_47 rfl ?_
                  refine w_cI [_, _] _ ta_47 rfl rfl rfl mt_51 rfl rfl rfl rfl (Nat.le_of_ble_eq_true rfl) (fun _ => rfl) rfl (c_failC _ Z 3) ?_
                  rintro u2 Z2 ⟨hu2, hz⟩
                  refine w_iret ta_47 rfl (Or.inr ⟨rfl, by omega⟩) ?_
                  have eS : spC (N 2) (N 1 1) md (d + 1) p dr ch td = (3, tS (N 2) (N 1 1) p, p, dr, ch, md) := by unfold spC; rw [if_neg k4, if_neg (by omega), if_neg (fun z => z h36), if_pos (by omega)]
                  rw [eS, hz]
                  exact ⟨_, rfl, LnP.fail (FrL.of f1) rfl (by decide) (by decide) s1 hu2⟩
              · exfalso; omega
            · refine w_aload_n ta_47 rfl rfl ?_
              refine w_iconst ta_47 rfl ?_
              refine w_cI [_, _] _ ta_47 rfl rfl rfl mt_51 rfl rfl rfl rfl (Nat.le_of_ble_eq_true rfl) (fun _ => rfl) rfl (c_failC _ Z 2) ?_
              rintro u Z2 ⟨hu, hz⟩
              refine w_iret ta_47 rfl (Or.inr ⟨rfl, by omega⟩) ?_
              have eS : spC (N 2) (N 1 1) md (d + 1) p dr ch td = (2, tS (N 2) (N 1 1) p, p, dr, ch, md) := by unfold spC; rw [if_neg k4, if_neg (by omega), if_pos h36]
              rw [eS, hz]
              exact ⟨_, rfl, LnP.fail (FrL.of f1) rfl (by decide) (by decide) s1 hu⟩
          · refine w_iconst ta_47 rfl ?_
            refine w_iret ta_47 rfl (Or.inr ⟨rfl, by omega⟩) ?_
            have eS : spC (N 2) (N 1 1) md (d + 1) p dr ch td = (0, 0, tN (N 2) (N 1 1) p, dr, ch, md) := by unfold spC; rw [if_neg k4, if_pos (by omega)]
            have nb := tN_b (t := N 2) (L := N 1 1) p1
            refine ⟨_, rfl, FrL.of f1, Or.inl ?_⟩
            rw [eS]
            exact ⟨rfl, rfl, a6, by show 0 ≤ tN (N 2) (N 1 1) p; omega, by show tN (N 2) (N 1 1) p ≤ Z 1 1; rw [f1 1 (by decide)]; omega, by show Z 23 2 = 0; rw [a2]; exact hf0, by show Z 23 8 = _; rw [m1]; exact hm8, hmd, hD.of (f1 8 (by decide)) (f1 9 (by decide)) (f1 10 (by decide))⟩
      · obtain ⟨k4, -, a2, a3⟩ := hc.resolve_right (fun z => by have := z.2.1; omega)
        refine w_iconst ta_47 rfl ?_
        refine w_iret ta_47 rfl (Or.inr ⟨rfl, by omega⟩) ?_
        have eS : spC (N 2) (N 1 1) md (d + 1) p dr ch td = (1, tS (N 2) (N 1 1) p, p, dr, ch, md) := by unfold spC; rw [if_pos k4]
        exact ⟨_, rfl, FrL.of f1, Or.inr (Or.inr ⟨rfl, by rw [eS]; exact ⟨by show (1 : Int) ≤ 1; omega, by show (1 : Int) ≤ 5; omega, a2, a3⟩⟩)⟩
set_option maxHeartbeats 4000000 in
set_option maxRecDepth 20000 in
theorem c_readCells (D : Nat) (N : Mem) (hT : TpI N) (p : Int) (dr ch md : Int → Int) (hR : RdC N p dr ch md) : CI (D + 3) 47 [.inr (.inr 23)] N (fun v M' => LnP N M' v (spC (N 2) (N 1 1) md (16 - dr 0).toNat p dr ch 0)) := by
  refine mk_C mt_47 rfl (Nat.le_of_ble_eq_true rfl) (L := [some _, none]) rfl ?_
  refine w_iconst ta_47 rfl ?_
  refine w_istn_1_2 ta_47 rfl rfl ?_
  have hDr := hR.2.2.2.2.2.2.2.2
  exact lp_readCells D md (16 - dr 0).toNat N p 0 dr ch hT hR (by have := hDr.1; have := hDr.2.1; omega) (by omega) (by have := hDr.1; omega)
set_option maxHeartbeats 4000000 in
set_option maxRecDepth 20000 in
theorem lp_readLine (D : Nat) (N : Mem) (hT : TpI N) (p : Int) (dr ch md : Int → Int) (hR : RdC N p dr ch md) (Z : Mem) (f1 : ∀ c, c ≠ 23 → Z c = N c) (s1 : Z 23 5 = tS (N 2) (N 1 1) p) (m1 : Z 23 8 = N 23 8) (k4 : tK (N 2) (N 1 1) p ≠ 4) (k3 : tK (N 2) (N 1 1) p ≠ 3) (a6 : Z 23 6 = tN (N 2) (N 1 1) p) (a2 : Z 23 2 = N 23 2) (ln : Int) (hln : (ln = 5 ∧ tW (N 2) (N 1 1) p = -4) ∨ (ln = 1 ∧ tW (N 2) (N 1 1) p = 0) ∨ ((ln = 0 ∨ ln = 2 ∨ ln = 3 ∨ ln = 4) ∧ tW (N 2) (N 1 1) p = wz ln)) : Wp (D + 6) 40 (32, [some (.inr (.inr 23)), none], [.inl ln], Z) (fun r M' => ∃ v, r = some (.inl v) ∧ LnP N M' v (spL (N 2) (N 1 1) p dr ch md)) := by
  obtain ⟨hp, p0, p1, hf0, hm8, hmd, hD⟩ := id hR
  obtain ⟨l0, l1, hb⟩ := id hT
  have kb := tK_b (N 2) (N 1 1) p
  have nb := tN_b (t := N 2) (L := N 1 1) p1
  have hTZ : TpI Z := hT.of (f1 1 (by decide)) (f1 2 (by decide))
  have hRZ : RdC Z (tN (N 2) (N 1 1) p) dr ch md := ⟨a6, by omega, by rw [f1 1 (by decide)]; omega, a2.trans hf0, m1.trans hm8, hmd, hD.of (f1 8 (by decide)) (f1 9 (by decide)) (f1 10 (by decide))⟩
  refine w_istn_1_2 ta_40 rfl rfl ?_
  refine w_iload_n ta_40 rfl rfl ?_
  refine w_iconst ta_40 rfl ?_
  refine w_icmp_ne ta_40 rfl ⟨by omega, by omega⟩ ⟨by omega, by omega⟩ (fun h35 => ?_) (fun h35 => ?_)
  · refine w_iload_n ta_40 rfl rfl ?_
    refine w_iconst ta_40 rfl ?_
    refine w_icmp_ne ta_40 rfl ⟨by omega, by omega⟩ ⟨by omega, by omega⟩ (fun h46 => ?_) (fun h46 => ?_)
    · refine w_aload_n ta_40 rfl rfl ?_
      have cc : ln = 0 ∨ ln = 2 ∨ ln = 3 ∨ ln = 4 := by omega
      have tw : tW (N 2) (N 1 1) p = wz ln := ((hln.resolve_left (fun q => by omega)).resolve_left (fun q => by omega)).2
      have mA := mt_A hmd cc
      have wb : 1 ≤ wz ln ∧ wz ln ≤ 4 := by rcases cc with rfl | rfl | rfl | rfl <;> decide
      refine w_getIv 8 (v := mtV md) ta_40 rfl rfl rfl (m1.trans hm8) ?_
      refine w_iconst ta_40 rfl ?_
      refine w_iload_n ta_40 rfl rfl ?_
      refine w_ishl ta_40 rfl (by omega) (by omega) ?_
      refine w_iand ta_40 rfl ?_
      refine w_if_eq ta_40 rfl ⟨by omega, by omega⟩ (fun h62 => ?_) (fun h62 => ?_)
      · refine w_aload_n ta_40 rfl rfl ?_
        refine w_dup ta_40 rfl rfl ?_
        refine w_getIv 8 (v := mtV md) ta_40 rfl rfl rfl (m1.trans hm8) ?_
        refine w_iconst ta_40 rfl ?_
        refine w_iload_n ta_40 rfl rfl ?_
        refine w_ishl ta_40 rfl (by omega) (by omega) ?_
        refine w_ior ta_40 rfl ?_
        refine w_putI 8 ta_40 rfl rfl rfl ?_
        refine w_aload_n ta_40 rfl rfl ?_
        refine w_iload_n ta_40 rfl rfl ?_
        have m0 : md (wz ln) = 0 ∧ iOr (mtV md) (1 * 2 ^ ln.toNat) = mtV (upI md (wz ln) 1) := mA.elim (fun q => ⟨q.1, q.2.2⟩) (fun q => absurd h62 (by omega))
        have hR2 : RdC (wr Z 23 8 (iOr (mtV md) (1 * 2 ^ ln.toNat))) (tN (N 2) (N 1 1) p) dr ch (upI md (wz ln) 1) := ⟨by rw [wr_s, up_n _ _ (by decide)]; exact a6, by omega, by rw [wr_n _ _ _ (by decide)]; exact hRZ.2.2.1, by rw [wr_s, up_n _ _ (by decide)]; exact a2.trans hf0, by rw [wr_s, up_s]; exact m0.2, fun j => (Classical.em (j = wz ln)).elim (fun e => by rw [e, up_s]; exact Or.inr rfl) (fun e => by rw [up_n _ _ e]; exact hmd j), hRZ.2.2.2.2.2.2.of (wr_n _ _ _ (by decide)) (wr_n _ _ _ (by decide)) (wr_n _ _ _ (by decide))⟩
        refine w_cI [_, _] _ ta_40 rfl rfl rfl mt_43 rfl rfl rfl rfl (Nat.le_of_ble_eq_true rfl) (fun _ => rfl) rfl (c_readSetting _ _ (hT.of ((wr_n _ _ _ (by decide)).trans (f1 1 (by decide))) ((wr_n _ _ _ (by decide)).trans (f1 2 (by decide)))) (tN (N 2) (N 1 1) p) dr ch md ln cc hR2) ?_
        rintro u Z2 hL
        have hub := hL.b
        refine w_iret ta_40 rfl (Or.inr ⟨rfl, hub⟩) ?_
        have eS : spL (N 2) (N 1 1) p dr ch md = spN (N 2) (N 1 1) md (wz ln) (tN (N 2) (N 1 1) p) dr ch := by unfold spL; rw [if_neg k4, if_neg k3, if_neg (by omega), if_neg (by omega), if_neg (by rw [tw, m0.1]; decide), tw]
        rw [wr_n _ _ _ (by decide), wr_n _ _ _ (by decide), f1 1 (by decide), f1 2 (by decide)] at hL
        rw [eS]
        exact ⟨_, rfl, ((FrL.of f1).tr (fun c hc => wr_n _ _ _ (by omega))).tr hL.1, hL.2⟩
      · refine w_aload_n ta_40 rfl rfl ?_
        refine w_iconst ta_40 rfl ?_
        refine w_cI [_, _] _ ta_40 rfl rfl rfl mt_51 rfl rfl rfl rfl (Nat.le_of_ble_eq_true rfl) (fun _ => rfl) rfl (c_failC _ Z 4) ?_
        rintro u Z2 ⟨hu, hz⟩
        refine w_iret ta_40 rfl (Or.inr ⟨rfl, by omega⟩) ?_
        have eS : spL (N 2) (N 1 1) p dr ch md = (4, tS (N 2) (N 1 1) p, p, dr, ch, md) := by unfold spL; rw [if_neg k4, if_neg k3, if_neg (by omega), if_neg (by omega), if_pos (by rw [tw]; exact mA.elim (fun q => absurd q.2.1 h62) (fun q => q.1))]
        rw [eS, hz]
        exact ⟨_, rfl, LnP.fail (FrL.of f1) rfl (by decide) (by decide) s1 hu⟩
    · refine w_aload_n ta_40 rfl rfl ?_
      refine w_cI [_] _ ta_40 rfl rfl rfl mt_47 rfl rfl rfl rfl (Nat.le_of_ble_eq_true rfl) (fun _ => rfl) rfl (c_readCells _ Z hTZ _ _ _ _ hRZ) ?_
      rintro u Z2 hL
      have hub := hL.b
      refine w_iret ta_40 rfl (Or.inr ⟨rfl, hub⟩) ?_
      have eS : spL (N 2) (N 1 1) p dr ch md = spC (N 2) (N 1 1) md (16 - dr 0).toNat (tN (N 2) (N 1 1) p) dr ch 0 := by unfold spL; rw [if_neg k4, if_neg k3, if_neg (by omega), if_pos (by omega)]
      rw [f1 1 (by decide), f1 2 (by decide)] at hL
      rw [eS]
      exact ⟨_, rfl, (FrL.of f1).tr hL.1, hL.2⟩
  · refine w_aload_n ta_40 rfl rfl ?_
    refine w_iconst ta_40 rfl ?_
    refine w_cI [_, _] _ ta_40 rfl rfl rfl mt_51 rfl rfl rfl rfl (Nat.le_of_ble_eq_true rfl) (fun _ => rfl) rfl (c_failC _ Z 2) ?_
    rintro u Z2 ⟨hu, hz⟩
    refine w_iret ta_40 rfl (Or.inr ⟨rfl, by omega⟩) ?_
    have eS : spL (N 2) (N 1 1) p dr ch md = (2, tS (N 2) (N 1 1) p, p, dr, ch, md) := by unfold spL; rw [if_neg k4, if_neg k3, if_pos (by omega)]
    rw [eS, hz]
    exact ⟨_, rfl, LnP.fail (FrL.of f1) rfl (by decide) (by decide) s1 hu⟩
set_option maxHeartbeats 4000000 in
set_option maxRecDepth 20000 in
theorem c_readLine (D : Nat) (N : Mem) (hT : TpI N) (p : Int) (dr ch md : Int → Int) (hR : RdC N p dr ch md) : CI (D + 6) 40 [.inr (.inr 23)] N (fun v M' => LnP N M' v (spL (N 2) (N 1 1) p dr ch md)) := by
  refine mk_C mt_40 rfl (Nat.le_of_ble_eq_true rfl) (L := [some _, none]) rfl ?_
  obtain ⟨hp, p0, p1, hf0, hm8, hmd, hD⟩ := id hR
  obtain ⟨l0, l1, hb⟩ := id hT
  have kb := tK_b (N 2) (N 1 1) p
  refine w_aload_n ta_40 rfl rfl ?_
  have nb := tN_b (t := N 2) (L := N 1 1) p1
  have sb := tS_b (t := N 2) (L := N 1 1) p1
  have nb2 : tS (N 2) (N 1 1) p ≤ tN (N 2) (N 1 1) p := (nS_b (t := N 2) sb.2).1
  refine w_cI [_] _ ta_40 rfl rfl rfl mt_48 rfl rfl rfl rfl (Nat.le_of_ble_eq_true rfl) (fun _ => rfl) rfl (c_nextToken _ N hT (by omega) (by omega)) ?_
  rintro v Z hN
  rw [hp] at hN
  obtain ⟨f1, s1, m1, hc⟩ := hN
  have hv : v = 0 ∨ v = 1 := hc.elim (fun q => Or.inl q.2.1) (fun q => Or.inr q.2.1)
  refine w_if_eq ta_40 rfl ⟨by omega, by omega⟩ (fun h4 => ?_) (fun h4 => ?_)
  · obtain ⟨k4, -, a2, a3⟩ := hc.resolve_right (fun z => by have := z.2.1; omega)
    refine w_iconst ta_40 rfl ?_
    refine w_iret ta_40 rfl (Or.inr ⟨rfl, by omega⟩) ?_
    first
      | (have eS : spL (N 2) (N 1 1) p dr ch md = (1, tS (N 2) (N 1 1) p, p, dr, ch, md) := by unfold spL; rw [if_pos k4]
         exact ⟨_, rfl, FrL.of f1, Or.inr (Or.inr ⟨rfl, by rw [eS]; exact ⟨by show (1 : Int) ≤ 1; omega, by show (1 : Int) ≤ 5; omega, a2, a3⟩⟩)⟩)
      | (have eS : spL (N 2) (N 1 1) p dr ch md = (-1, 0, p, dr, ch, md) := by unfold spL; rw [if_neg k4, if_pos (by omega)]
         refine ⟨_, rfl, FrL.of f1, Or.inr (Or.inl ?_)⟩
         rw [eS]
         exact ⟨rfl, rfl, a2.trans hf0, hD.of (f1 8 (by decide)) (f1 9 (by decide)) (f1 10 (by decide))⟩)
  · obtain ⟨k4, -, a4, a6, a2, a7⟩ := hc.resolve_left (fun z => by have := z.2.1; omega)
    refine w_aload_n ta_40 rfl rfl ?_
    refine w_getIv 4 (v := tK (N 2) (N 1 1) p) ta_40 rfl rfl rfl a4 ?_
    refine w_iconst ta_40 rfl ?_
    refine w_icmp_ne ta_40 rfl ⟨by omega, by omega⟩ ⟨by omega, by omega⟩ (fun h12 => ?_) (fun h12 => ?_)
    · refine w_aload_n ta_40 rfl rfl ?_
      refine w_getIv 4 (v := tK (N 2) (N 1 1) p) ta_40 rfl rfl rfl a4 ?_
      refine w_if_ne ta_40 rfl ⟨by omega, by omega⟩ (fun h21 => ?_) (fun h21 => ?_)
      · refine w_iconst ta_40 rfl ?_
        first
          | (have e : tW (N 2) (N 1 1) p = -4 := if_neg h21
             exact lp_readLine D N hT p dr ch md hR Z f1 s1 m1 k4 h12 a6 a2 5 (Or.inl ⟨rfl, e⟩))
          | (have e : tW (N 2) (N 1 1) p = lnZ (N 2) (tS (N 2) (N 1 1) p) (tN (N 2) (N 1 1) p) := if_pos (by omega)
             refine lp_readLine D N hT p dr ch md hR Z f1 s1 m1 k4 h12 a6 a2 ln ?_
             rw [e, hl]
             exact lcZ_ln _ _ _)
      · refine w_aload_n ta_40 rfl rfl ?_
        refine w_cI [_] _ ta_40 rfl rfl rfl mt_41 rfl rfl rfl rfl (Nat.le_of_ble_eq_true rfl) (fun _ => rfl) rfl (c_lineNamed _ Z (hT.of (f1 1 (by decide)) (f1 2 (by decide))) _ _ (by rw [s1]; omega) (by rw [s1, a6]; omega) (by rw [a6, f1 1 (by decide)]; omega) rfl rfl) ?_
        rintro ln Z1 ⟨hl, hz⟩
        obtain rfl := hz.symm
        rw [s1, a6, f1 2 (by decide)] at hl
        refine w_goto ta_40 rfl ?_
        first
          | (have e : tW (N 2) (N 1 1) p = -4 := if_neg h21
             exact lp_readLine D N hT p dr ch md hR Z f1 s1 m1 k4 h12 a6 a2 5 (Or.inl ⟨rfl, e⟩))
          | (have e : tW (N 2) (N 1 1) p = lnZ (N 2) (tS (N 2) (N 1 1) p) (tN (N 2) (N 1 1) p) := if_pos (by omega)
             refine lp_readLine D N hT p dr ch md hR Z f1 s1 m1 k4 h12 a6 a2 ln ?_
             rw [e, hl]
             exact lcZ_ln _ _ _)
    · refine w_iconst ta_40 rfl ?_
      refine w_iret ta_40 rfl (Or.inr ⟨rfl, by omega⟩) ?_
      first
        | (have eS : spL (N 2) (N 1 1) p dr ch md = (1, tS (N 2) (N 1 1) p, p, dr, ch, md) := by unfold spL; rw [if_pos k4]
           exact ⟨_, rfl, FrL.of f1, Or.inr (Or.inr ⟨rfl, by rw [eS]; exact ⟨by show (1 : Int) ≤ 1; omega, by show (1 : Int) ≤ 5; omega, a2, a3⟩⟩)⟩)
        | (have eS : spL (N 2) (N 1 1) p dr ch md = (-1, 0, p, dr, ch, md) := by unfold spL; rw [if_neg k4, if_pos (by omega)]
           refine ⟨_, rfl, FrL.of f1, Or.inr (Or.inl ?_)⟩
           rw [eS]
           exact ⟨rfl, rfl, a2.trans hf0, hD.of (f1 8 (by decide)) (f1 9 (by decide)) (f1 10 (by decide))⟩)
def AlP (N M' : Mem) (S : Rs) : Prop := FrL N M' ∧ ((S.1 = -1 ∧ M' 23 2 = 0 ∧ DfC M' S.2.2.2.1 S.2.2.2.2.1) ∨ FlC M' S)
def dr0 : Int → Int := fun j => if j = 1 then 2 else if j = 3 then 10 else if j = 4 then 5 else 0
def ch0 : Int → Int := fun _ => 0
/-- what a text gives -/
def txZ (t : Int → Int) (L : Int) : Rs := spT t L (L + 1).toNat 0 dr0 ch0 ch0
theorem dr0_I : DrI dr0 ch0 := ⟨by decide, by decide, by decide, by decide, by decide, by decide, by decide, by decide, by decide, by decide, fun i i0 i1 => absurd i1 (by show ¬ i < 0; omega)⟩
set_option maxHeartbeats 4000000 in
set_option maxRecDepth 20000 in
theorem lp_readAll0 (D : Nat) (Z : Mem) (x : Int) : Wp (D + 7) 39 (31, [some (.inr (.inr 23)), some (.inl 0), some (.inl x)], [], Z) (fun r M' => r = none ∧ M' = Z) := by
  skip
  refine w_iload_n ta_39 rfl rfl ?_
  refine w_if_eq ta_39 rfl ⟨by omega, by omega⟩ (fun h32 => ?_) (fun h32 => ?_)
  · refine w_vret ta_39 rfl ?_
    exact ⟨rfl, rfl⟩
  · exfalso; omega
set_option maxHeartbeats 4000000 in
set_option maxRecDepth 20000 in
theorem lp_readAll (D : Nat) : ∀ (d : Nat) (N : Mem) (p : Int) (dr ch md : Int → Int) (x : Int), TpI N → RdC N p dr ch md → N 1 1 - p < d → 0 ≤ x → x ≤ p → Wp (D + 7) 39 (31, [some (.inr (.inr 23)), some (.inl 1), some (.inl x)], [], N) (fun r M' => r = none ∧ AlP N M' (spT (N 2) (N 1 1) d p dr ch md)) := by
  intro d
  induction d with
  | zero =>
    intro N p dr ch md x hT hR hd x0 x1
    have := hR.2.2.1
    exfalso
    omega
  | succ d ih =>
    intro N p dr ch md x hT hR hd x0 x1
    obtain ⟨hp, p0, p1, hf0, hm8, hmd, hD⟩ := id hR
    obtain ⟨l0, l1, hb⟩ := id hT
    refine w_iload_n ta_39 rfl rfl ?_
    refine w_if_eq ta_39 rfl ⟨by omega, by omega⟩ (fun h32 => ?_) (fun h32 => ?_)
    · exfalso; omega
    · refine w_iload_n ta_39 rfl rfl ?_
      refine w_sipush ta_39 rfl ?_
      refine w_icmp_gt ta_39 rfl ⟨by omega, by omega⟩ ⟨by omega, by omega⟩ (fun h39 => ?_) (fun h39 => ?_)
      · exfalso; omega
      · refine w_aload_n ta_39 rfl rfl ?_
        refine w_cI [_] _ ta_39 rfl rfl rfl mt_40 rfl rfl rfl rfl (Nat.le_of_ble_eq_true rfl) (fun _ => rfl) rfl (c_readLine _ N hT p dr ch md hR) ?_
        rintro v Z hL
        refine w_istn_1_3 ta_39 rfl rfl ?_
        refine w_iinc_2_3 ta_39 rfl rfl ?_
        refine w_goto ta_39 rfl ?_
        obtain ⟨fr, q⟩ := hL
        rw [spT]
        rcases q with ⟨e, rfl, hR'⟩ | ⟨e, rfl, q⟩ | ⟨rfl, q⟩
        · rw [if_pos e]
          have ad := spL_adv e
          have q := ih Z _ _ _ _ (x + 1) (hT.of (fr 1 (by omega)) (fr 2 (by omega))) hR' (by rw [fr 1 (by omega)]; omega) (by omega) (by omega)
          rw [fr 1 (by omega), fr 2 (by omega)] at q
          refine q.imp ?_
          rintro r M' ⟨hr, hA⟩
          exact ⟨hr, fr.tr hA.1, hA.2⟩
        · rw [if_neg (by omega)]
          refine (lp_readAll0 D Z (x + 1)).imp ?_
          rintro r M' ⟨hr, rfl⟩
          exact ⟨hr, fr, Or.inl ⟨e, q⟩⟩
        · rw [if_neg (by have := q.1; omega)]
          refine (lp_readAll0 D Z (x + 1)).imp ?_
          rintro r M' ⟨hr, rfl⟩
          exact ⟨hr, fr, Or.inr q⟩
set_option maxHeartbeats 4000000 in
set_option maxRecDepth 20000 in
theorem c_readAll (D : Nat) (N : Mem) (hT : TpI N) : CV (D + 7) 39 [.inr (.inr 23)] N (fun M' => AlP N M' (txZ (N 2) (N 1 1))) := by
  refine mk_C mt_39 rfl (Nat.le_of_ble_eq_true rfl) (L := [some _, none, none]) rfl ?_
  refine w_aload_n ta_39 rfl rfl ?_
  refine w_getR ta_39 rfl rfl ?_
  refine w_cV [_] _ ta_39 rfl rfl rfl mt_13 rfl rfl rfl rfl (Nat.le_of_ble_eq_true rfl) (fun _ => rfl) rfl (c_reset_8 _ N) ?_
  rintro Z hZ
  refine w_aload_n ta_39 rfl rfl ?_
  refine w_iconst ta_39 rfl ?_
  refine w_putI 2 ta_39 rfl rfl rfl ?_
  refine w_aload_n ta_39 rfl rfl ?_
  refine w_iconst ta_39 rfl ?_
  refine w_putI 3 ta_39 rfl rfl rfl ?_
  refine w_aload_n ta_39 rfl rfl ?_
  refine w_iconst ta_39 rfl ?_
  refine w_putI 6 ta_39 rfl rfl rfl ?_
  refine w_aload_n ta_39 rfl rfl ?_
  refine w_iconst ta_39 rfl ?_
  refine w_putI 8 ta_39 rfl rfl rfl ?_
  refine w_iconst ta_39 rfl ?_
  refine w_istn_1_3 ta_39 rfl rfl ?_
  refine w_iconst ta_39 rfl ?_
  refine w_istn_2_3 ta_39 rfl rfl ?_
  obtain ⟨l0, l1, hb⟩ := id hT
  generalize hY : wr (wr (wr (wr Z 23 2 0) 23 3 0) 23 6 0) 23 8 0 = Y
  have yn : ∀ c, c ≠ 8 → c ≠ 23 → Y c = N c := fun c h1 h2 => by rw [← hY, wr_n _ _ _ h2, wr_n _ _ _ h2, wr_n _ _ _ h2, wr_n _ _ _ h2, hZ, sc_n _ _ h1]
  have y8 : Y 8 = upI (upI (upI (upI (upI (N 8) 4 0) 5 2) 6 0) 7 10) 8 5 := by rw [← hY, wr_n _ _ _ (by decide), wr_n _ _ _ (by decide), wr_n _ _ _ (by decide), wr_n _ _ _ (by decide), hZ, sc_s]
  have hR : RdC Y 0 dr0 ch0 ch0 := by
    refine ⟨by rw [← hY]; simp [wr_s, upI], by omega, by rw [yn 1 (by decide) (by decide)]; exact l0, by rw [← hY]; simp [wr_s, upI], by rw [← hY]; simp [wr_s, upI, mtV, ch0], fun j => Or.inl rfl, fun j j0 j1 => ?_, fun i i0 i1 => absurd i1 (by show ¬ i < 0; omega), dr0_I⟩
    rw [y8]
    have hj : j = 0 ∨ j = 1 ∨ j = 2 ∨ j = 3 ∨ j = 4 := by omega
    rcases hj with rfl | rfl | rfl | rfl | rfl <;> simp [upI, dr0]
  have q := lp_readAll D (N 1 1 + 1).toNat Y 0 dr0 ch0 ch0 0 (hT.of (yn 1 (by decide) (by decide)) (yn 2 (by decide) (by decide))) hR (by rw [yn 1 (by decide) (by decide)]; omega) (by omega) (by omega)
  rw [yn 1 (by decide) (by decide), yn 2 (by decide) (by decide)] at q
  refine q.imp ?_
  rintro r M' ⟨hr, hA⟩
  exact ⟨hr, fun c hc => (hA.1 c hc).trans (yn c (by omega) (by omega)), hA.2⟩
/-- what the class keeps of a text -/
def TxC (M M' : Mem) (v : Int) (S : Rs) : Prop := (∀ c, 11 < c → c ≠ 23 → c ≠ 25 → c < 27 ∨ 70 < c → M' c = M c) ∧ M' 2 = M 2 ∧ M' 1 1 = 0 ∧ M' 0 9 = M 0 9 ∧ ((1 ≤ S.1 ∧ S.1 ≤ 5 ∧ v = -10 - S.2.1 ∧ M' 0 8 = S.1 ∧ (∀ c, 3 ≤ c → c ≤ 6 → M' c = M c) ∧ M' 25 = M 25) ∨ (S.1 = -1 ∧ v = S.2.2.2.1 0 ∧ M' 0 8 = 0 ∧ M' 25 0 = 0 ∧ M' 25 1 = 0 ∧ DrI S.2.2.2.1 S.2.2.2.2.1 ∧ (∀ j, 0 ≤ j → j < 5 → M' 3 (4 + j) = S.2.2.2.1 j) ∧ ∀ i, 0 ≤ i → i < S.2.2.2.1 0 → M' 4 i = S.2.2.2.2.1 i ∧ M' 5 i = S.2.2.2.2.1 i ∧ M' 6 i = i % S.2.2.2.1 1))
set_option maxHeartbeats 4000000 in
set_option maxRecDepth 20000 in
theorem c_text (D : Nat) (N : Mem) (hT : TpI N) : CI (D + 22) 60 [.inr (.inr 0)] N (fun v M' => TxC N M' v (txZ (N 2) (N 1 1))) := by
  refine mk_C mt_60 rfl (Nat.le_of_ble_eq_true rfl) (L := [some _]) rfl ?_
  refine w_aload_n ta_60 rfl rfl ?_
  refine w_getR ta_60 rfl rfl ?_
  refine w_cV [_] _ ta_60 rfl rfl rfl mt_39 rfl rfl rfl rfl (Nat.le_of_ble_eq_true rfl) (fun _ => rfl) rfl (c_readAll _ N hT) ?_
  rintro Z hA
  generalize txZ (N 2) (N 1 1) = S at hA ⊢
  obtain ⟨fr, hA⟩ := hA
  have r2 : 0 ≤ Z 23 2 ∧ Z 23 2 ≤ 5 := hA.elim (fun q => by have := q.2.1; omega) (fun q => by have := q.1; have := q.2.1; have := q.2.2.1; omega)
  refine w_aload_n ta_60 rfl rfl ?_
  refine w_getR ta_60 rfl rfl ?_
  refine w_iconst ta_60 rfl ?_
  refine w_putI 1 ta_60 rfl rfl rfl ?_
  refine w_aload_n ta_60 rfl rfl ?_
  refine w_aload_n ta_60 rfl rfl ?_
  refine w_getR ta_60 rfl rfl ?_
  refine w_getIv 2 (v := Z 23 2) ta_60 rfl rfl rfl (by rw [wr_n _ _ _ (by decide)]) ?_
  refine w_putI 8 ta_60 rfl rfl rfl ?_
  refine w_aload_n ta_60 rfl rfl ?_
  refine w_getIv 8 (v := Z 23 2) ta_60 rfl rfl rfl (by rw [wr_s, up_s]) ?_
  refine w_if_eq ta_60 rfl ⟨by omega, by omega⟩ (fun h30 => ?_) (fun h30 => ?_)
  · obtain ⟨S1, -, hD⟩ := hA.resolve_right (fun z => by have := z.1; have := z.2.2.1; omega)
    refine w_aload_n ta_60 rfl rfl ?_
    refine w_getR ta_60 rfl rfl ?_
    refine w_aload_n ta_60 rfl rfl ?_
    refine w_getR ta_60 rfl rfl ?_
    refine w_cV [_, _] _ ta_60 rfl rfl rfl mt_14 rfl rfl rfl rfl (Nat.le_of_ble_eq_true rfl) (fun _ => rfl) rfl (c_copyFrom_3_8 _ _) ?_
    rintro Z1 hZ1
    generalize hY : wr (wr Z 1 1 0) 0 8 (Z 23 2) = Y at hZ1
    obtain ⟨g1, g2, g3⟩ := hZ1
    have yn : ∀ c, c ≠ 0 → c ≠ 1 → Y c = Z c := fun c h1 h2 => by rw [← hY, wr_n _ _ _ h1, wr_n _ _ _ h2]
    obtain ⟨d1, d2, hDI⟩ := id hD
    have i3 : ∀ j, 0 ≤ j → j < 5 → Z1 3 (4 + j) = S.2.2.2.1 j := fun j j0 j1 => by rw [g2 (4 + j) (by omega) (by omega), yn 8 (by decide) (by decide)]; exact d1 j j0 j1
    have e34 : Z1 3 4 = S.2.2.2.1 0 := i3 0 (by omega) (by omega)
    have e35 : Z1 3 5 = S.2.2.2.1 1 := i3 1 (by omega) (by omega)
    have n0 := hDI.1
    have n1 := hDI.2.1
    have k0 := hDI.2.2.1
    have k1 := hDI.2.2.2.1
    refine w_aload_n ta_60 rfl rfl ?_
    refine w_iconst ta_60 rfl ?_
    refine w_cV [_, _] _ ta_60 rfl rfl rfl mt_97 rfl rfl rfl rfl (Nat.le_of_ble_eq_true rfl) (fun _ => rfl) rfl (c_regroup2 _ Z1 (by omega) (by omega) (by omega) (by omega)) ?_
    rintro Z2 ⟨c1, c2⟩
    refine w_aload_n ta_60 rfl rfl ?_
    refine w_cV [_] _ ta_60 rfl rfl rfl mt_99 rfl rfl rfl rfl (Nat.le_of_ble_eq_true rfl) (fun _ => rfl) rfl (c_forget _ Z2) ?_
    rintro Z3 hZ3
    have y3 : Z3 3 = Z1 3 := by rw [hZ3, wr_n _ _ _ (by decide), wr_n _ _ _ (by decide)]; exact c1 3 (by decide) (by decide)
    have y34 : Z3 3 4 = S.2.2.2.1 0 := by rw [y3]; exact e34
    refine w_aload_n ta_60 rfl rfl ?_
    refine w_getR ta_60 rfl rfl ?_
    refine w_getIv 4 (v := S.2.2.2.1 0) ta_60 rfl rfl rfl y34 ?_
    refine w_iret ta_60 rfl (Or.inl rfl) ?_
    have zz : ∀ c, c ≠ 25 → Z3 c = Z2 c := fun c hc => by rw [hZ3, wr_n _ _ _ hc, wr_n _ _ _ hc]
    have z1 : ∀ c, c ≠ 25 → c ≠ 6 → c ≠ 3 → c ≠ 4 → c ≠ 5 → c < 27 ∨ 70 < c → Z3 c = Y c := fun c h1 h2 h3 h4 h5 h6 => by rw [zz c h1, c1 c h2 h6, g1 c h3 h4 h5 h2]
    refine ⟨_, rfl, fun c h1 h2 h3 h4 => ?_, ?_, ?_, ?_, Or.inr ⟨S1, rfl, ?_, ?_, ?_, hDI, fun j j0 j1 => ?_, fun i i0 i1 => ⟨?_, ?_, ?_⟩⟩⟩
    · rw [z1 c h3 (by omega) (by omega) (by omega) (by omega) h4, yn c (by omega) (by omega)]; exact fr c (by omega)
    · rw [z1 2 (by decide) (by decide) (by decide) (by decide) (by decide) (by decide), yn 2 (by decide) (by decide)]; exact fr 2 (by decide)
    · rw [z1 1 (by decide) (by decide) (by decide) (by decide) (by decide) (by decide), ← hY, wr_n _ _ _ (by decide), wr_s, up_s]
    · rw [z1 0 (by decide) (by decide) (by decide) (by decide) (by decide) (by decide), ← hY, wr_s, up_n _ _ (by decide), wr_n _ _ _ (by decide), fr 0 (by decide)]
    · rw [z1 0 (by decide) (by decide) (by decide) (by decide) (by decide) (by decide), ← hY, wr_s, up_s]; exact h30
    · rw [hZ3, wr_s, up_n _ _ (by decide), wr_s, up_s]
    · rw [hZ3, wr_s, up_s]
    · rw [y3]; exact i3 j j0 j1
    · rw [zz 4 (by decide), c1 4 (by decide) (by decide)]; exact ((g3 i i0 (by omega)).1).trans (by rw [yn 9 (by decide) (by decide)]; exact (d2 i i0 i1).1)
    · rw [zz 5 (by decide), c1 5 (by decide) (by decide)]; exact ((g3 i i0 (by omega)).2.1).trans (by rw [yn 10 (by decide) (by decide)]; exact (d2 i i0 i1).2)
    · rw [zz 6 (by decide), c2 i i0 (by omega), e35]
  · obtain ⟨S1, S5, q2, q3⟩ := hA.resolve_left (fun z => h30 z.2.1)
    refine w_bipush ta_60 rfl ?_
    refine w_aload_n ta_60 rfl rfl ?_
    refine w_getR ta_60 rfl rfl ?_
    refine w_getIv 3 (v := Z 23 3) ta_60 rfl rfl rfl (by rw [wr_n _ _ _ (by decide), wr_n _ _ _ (by decide)]) ?_
    refine w_isub ta_60 rfl ?_
    refine w_iret ta_60 rfl (Or.inl rfl) ?_
    refine ⟨_, rfl, fun c h1 h2 h3 h4 => ?_, ?_, ?_, ?_, Or.inl ⟨S1, S5, by rw [q3], ?_, fun c h1 h2 => ?_, ?_⟩⟩
    · rw [wr_n _ _ _ (by omega), wr_n _ _ _ (by omega)]; exact fr c (by omega)
    · rw [wr_n _ _ _ (by decide), wr_n _ _ _ (by decide)]; exact fr 2 (by decide)
    · rw [wr_n _ _ _ (by decide), wr_s, up_s]
    · rw [wr_s, up_n _ _ (by decide), wr_n _ _ _ (by decide), fr 0 (by decide)]
    · rw [wr_s, up_s]; exact q2
    · rw [wr_n _ _ _ (by omega), wr_n _ _ _ (by omega)]; exact fr c (by omega)
    · rw [wr_n _ _ _ (by decide), wr_n _ _ _ (by decide)]; exact fr 25 (by decide)
