/-! the law, from its head -/
theorem dl_18 : decode code 18 = .ok (.iload_n 3, 1) := by decide +kernel
theorem dl_19 : decode code 19 = .ok (.aload_n 0, 1) := by decide +kernel
theorem dl_20 : decode code 20 = .ok (.arraylength, 1) := by decide +kernel
theorem dl_21 : decode code 21 = .ok (.iconst 5, 1) := by decide +kernel
theorem dl_22 : decode code 22 = .ok (.isub, 1) := by decide +kernel
theorem dl_23 : decode code 23 = .ok (.if_icmp .gt 978, 3) := by decide +kernel
theorem dl_26 : decode code 26 = .ok (.aload_n 0, 1) := by decide +kernel
theorem dl_27 : decode code 27 = .ok (.iload_n 3, 1) := by decide +kernel
theorem dl_28 : decode code 28 = .ok (.iaload, 1) := by decide +kernel
theorem dl_29 : decode code 29 = .ok (.bipush 31, 2) := by decide +kernel
theorem dl_31 : decode code 31 = .ok (.iand, 1) := by decide +kernel
theorem dl_32 : decode code 32 = .ok (.tableswitch 963 0 30 #[140, 163, 186, 199, 212, 235, 268, 301, 324, 357, 390, 413, 436, 469, 502, 515, 538, 561, 594, 627, 650, 673, 696, 709, 742, 765, 788, 831, 874, 927, 940], 140) := by decide +kernel
theorem dl_995 : decode code 995 = .ok (.iinc 3 5, 3) := by decide +kernel
theorem dl_998 : decode code 998 = .ok (.goto (-980), 3) := by decide +kernel
theorem dl_1001 : decode code 1001 = .ok (.iconst 1, 1) := by decide +kernel
theorem dl_1002 : decode code 1002 = .ok (.ireturn, 1) := by decide +kernel
theorem and31 (x : Int32) : ∃ t : Nat, t < 32 ∧ x &&& 31 = nI t := by
  refine ⟨(x &&& 31).toBitVec.toNat, ?_, ?_⟩
  · rw [Int32.toBitVec_and, BitVec.toNat_and]
    exact Nat.lt_of_le_of_lt Nat.and_le_right (by decide)
  · apply oi_binj
    show _ = (BitVec.ofNat 32 _).toNat
    rw [BitVec.toNat_ofNat, Nat.mod_eq_of_lt (BitVec.isLt _)]
theorem gt_i {i L : Nat} (hi : i ≤ L) (hL : L ≤ 2560) (h : ¬ Int32.ofNat L - 5 < nI i) : i + 5 ≤ L := by
  rcases Nat.lt_or_ge L (i + 5) with q | q
  · exfalso
    apply h
    have e1 : Int32.ofNat L = Int32.ofInt (L : Int) := (Int32.ofInt_eq_ofNat (n := L)).symm
    have e2 : nI i = Int32.ofInt (i : Int) := (Int32.ofInt_eq_ofNat (n := i)).symm
    rw [e1, e2, show (5 : Int32) = Int32.ofInt 5 from rfl, ← Int32.ofInt_sub]
    exact (oi_lt ⟨by omega, by omega⟩ ⟨by omega, by omega⟩).mpr (by omega)
  · exact q
section LAWL
variable {ad : Nat → Nat} {cT dC : Nat → ClassId} {dI : Nat → Nat → Nat} {adV : Nat → Nat}
variable {p : Program} {l : Launch} {e : Env} {s : State} {m : MethodId} {below : List Frame} {meth : Method} {c : Code} {b L : Nat} {xs : Nat → Int32}
set_option maxHeartbeats 4000000 in
set_option maxRecDepth 20000 in
theorem law_loop (X : LX ad cT dC dI adV p s m meth c b L xs) : ∀ (n i : Nat) (M : Mem) (H : Heap) (locs : List Loc) (ls : Array Slot), i ≤ L → L + 1 ≤ i + n → INV M → va_P (dC, dI) vwCl (WL ad cT M) H → va_S (AD ad) s.heap H locs → lv_has ls 4 [(0, .ref b), (1, .ref (ad 0)), (2, .ref (ad 80)), (3, .int (nI i))] → W p l e room_1 s m #[Value.ref b] below meth c H locs 98 1715 (lw_Z below #[Value.ref b] s) (F0 m 18 ls []) := by
  obtain ⟨⟨hx, hb, hr, hml, hown, hts, hX, hbl, hlocks, hgv⟩, hWO, hnew, hL⟩ := id X
  have hbA : ¬ AD ad b := fun q => absurd (hnew b q) (Nat.not_le.mpr hbl)
  intro n
  induction n with
  | zero =>
    intro i M H locs ls h1 h2
    exact absurd h2 (by omega)
  | succ n ih =>
    intro i M H locs ls hi hin hI hP hS hl
    refine lv_iload_n hx hb dl_18 rfl (lv_at hl 3 rfl) ?_
    refine lv_aload_n hx hb dl_19 rfl (lv_at hl 0 rfl) ?_
    refine va_slen hx hb hX hbl hbA hS dl_20 ?_
    refine lv_iconst (v := 5) hx hb dl_21 (by decide) ?_
    refine lv_isub hx hb dl_22 ?_
    refine lv_icmp_gt (tgt := 1001) hx hb dl_23 (by decide) (fun _ => ?_) (fun g => ?_)
    · refine lv_iconst (v := 1) hx hb dl_1001 (by decide) ?_
      refine va_forget (fun q hq => hnew _ (hS.2.2 q hq)) ?_
      refine W.widen (k := 600000) (n := 7302250) (Nat.le_of_ble_eq_true rfl) (Nat.le_of_ble_eq_true rfl) ?_
      exact lw_ret hx hb hr hlocks dl_1002
    · have h5 : i + 5 ≤ L := gt_i hi hL g
      have h0 : vp_in (nI i) L := vp_in_nI (by omega) (by omega)
      have h1 : vp_in (nI i + 1) L := by rw [nI_1]; exact vp_in_nI (by omega) (by omega)
      have h2 : vp_in (nI i + 2) L := by rw [show nI i + 2 = nI (i + 2) from nI_add i 2]; exact vp_in_nI (by omega) (by omega)
      have h3 : vp_in (nI i + 3) L := by rw [show nI i + 3 = nI (i + 3) from nI_add i 3]; exact vp_in_nI (by omega) (by omega)
      have h4 : vp_in (nI i + 4) L := by rw [show nI i + 4 = nI (i + 4) from nI_add i 4]; exact vp_in_nI (by omega) (by omega)
      have kk : ∀ (M2 : Mem) (H1 : Heap) (locs1 : List Loc), INV M2 → va_P (dC, dI) vwCl (WL ad cT M2) H1 → va_S (AD ad) s.heap H1 locs1 → W p l e room_1 s m #[Value.ref b] below meth c H1 locs1 98 1715 (lw_Z below #[Value.ref b] s) (F0 m 995 ls []) := by
        intro M2 H1 locs1 hI2 hP2 hS2
        refine lv_iinc (v := nI (i + 5)) (lv' := [(3, .int (nI (i + 5))), (0, .ref b), (1, .ref (ad 0)), (2, .ref (ad 80))]) hx hb dl_995 hl (k := 3) rfl (nI_add i 5) (by decide) rfl (fun ls hl => ?_)
        refine lv_goto (tgt := 18) hx hb dl_998 (by decide) ?_
        exact ih (i + 5) M2 H1 locs1 ls h5 (by omega) hI2 hP2 hS2 (lv_sub hl [1, 2, 3, 0] rfl)
      refine lv_aload_n hx hb dl_26 rfl (lv_at hl 0 rfl) ?_
      refine lv_iload_n hx hb dl_27 rfl (lv_at hl 3 rfl) ?_
      refine va_sld hx hb hX hbl hbA hS h0 dl_28 ?_
      refine lv_bipush (v := 31) hx hb dl_29 (by decide) ?_
      refine lv_iand hx hb dl_31 ?_
      obtain ⟨t, ht, et⟩ := and31 (xs (nI i).toNatClampNeg)
      rw [et]
      clear et
      rcases (show t = 0 ∨ t = 1 ∨ t = 2 ∨ t = 3 ∨ t = 4 ∨ t = 5 ∨ t = 6 ∨ t = 7 ∨ t = 8 ∨ t = 9 ∨ t = 10 ∨ t = 11 ∨ t = 12 ∨ t = 13 ∨ t = 14 ∨ t = 15 ∨ t = 16 ∨ t = 17 ∨ t = 18 ∨ t = 19 ∨ t = 20 ∨ t = 21 ∨ t = 22 ∨ t = 23 ∨ t = 24 ∨ t = 25 ∨ t = 26 ∨ t = 27 ∨ t = 28 ∨ t = 29 ∨ t = 30 ∨ t = 31 by omega) with rfl | rfl | rfl | rfl | rfl | rfl | rfl | rfl | rfl | rfl | rfl | rfl | rfl | rfl | rfl | rfl | rfl | rfl | rfl | rfl | rfl | rfl | rfl | rfl | rfl | rfl | rfl | rfl | rfl | rfl | rfl | rfl
      · refine lv_tableIn (off := 140) (tgt := 172) hx hb dl_32 (by decide +kernel) (by decide +kernel) (by decide +kernel) (by decide) ?_
        exact law_0 X hI hP hS hl h1 kk
      · refine lv_tableIn (off := 163) (tgt := 195) hx hb dl_32 (by decide +kernel) (by decide +kernel) (by decide +kernel) (by decide) ?_
        exact law_1 X hI hP hS hl h1 kk
      · refine lv_tableIn (off := 186) (tgt := 218) hx hb dl_32 (by decide +kernel) (by decide +kernel) (by decide +kernel) (by decide) ?_
        exact law_2 X hI hP hS hl  kk
      · refine lv_tableIn (off := 199) (tgt := 231) hx hb dl_32 (by decide +kernel) (by decide +kernel) (by decide +kernel) (by decide) ?_
        exact law_3 X hI hP hS hl  kk
      · refine lv_tableIn (off := 212) (tgt := 244) hx hb dl_32 (by decide +kernel) (by decide +kernel) (by decide +kernel) (by decide) ?_
        exact law_4 X hI hP hS hl h1 kk
      · refine lv_tableIn (off := 235) (tgt := 267) hx hb dl_32 (by decide +kernel) (by decide +kernel) (by decide +kernel) (by decide) ?_
        exact law_5 X hI hP hS hl h1 h2 kk
      · refine lv_tableIn (off := 268) (tgt := 300) hx hb dl_32 (by decide +kernel) (by decide +kernel) (by decide +kernel) (by decide) ?_
        exact law_6 X hI hP hS hl h1 h2 kk
      · refine lv_tableIn (off := 301) (tgt := 333) hx hb dl_32 (by decide +kernel) (by decide +kernel) (by decide +kernel) (by decide) ?_
        exact law_7 X hI hP hS hl h1 kk
      · refine lv_tableIn (off := 324) (tgt := 356) hx hb dl_32 (by decide +kernel) (by decide +kernel) (by decide +kernel) (by decide) ?_
        exact law_8 X hI hP hS hl h1 h2 kk
      · refine lv_tableIn (off := 357) (tgt := 389) hx hb dl_32 (by decide +kernel) (by decide +kernel) (by decide +kernel) (by decide) ?_
        exact law_9 X hI hP hS hl h1 h2 kk
      · refine lv_tableIn (off := 390) (tgt := 422) hx hb dl_32 (by decide +kernel) (by decide +kernel) (by decide +kernel) (by decide) ?_
        exact law_10 X hI hP hS hl h1 kk
      · refine lv_tableIn (off := 413) (tgt := 445) hx hb dl_32 (by decide +kernel) (by decide +kernel) (by decide +kernel) (by decide) ?_
        exact law_11 X hI hP hS hl h1 kk
      · refine lv_tableIn (off := 436) (tgt := 468) hx hb dl_32 (by decide +kernel) (by decide +kernel) (by decide +kernel) (by decide) ?_
        exact law_12 X hI hP hS hl h1 h2 kk
      · refine lv_tableIn (off := 469) (tgt := 501) hx hb dl_32 (by decide +kernel) (by decide +kernel) (by decide +kernel) (by decide) ?_
        exact law_13 X hI hP hS hl h1 h2 kk
      · refine lv_tableIn (off := 502) (tgt := 534) hx hb dl_32 (by decide +kernel) (by decide +kernel) (by decide +kernel) (by decide) ?_
        exact law_14 X hI hP hS hl  kk
      · refine lv_tableIn (off := 515) (tgt := 547) hx hb dl_32 (by decide +kernel) (by decide +kernel) (by decide +kernel) (by decide) ?_
        exact law_15 X hI hP hS hl h1 kk
      · refine lv_tableIn (off := 538) (tgt := 570) hx hb dl_32 (by decide +kernel) (by decide +kernel) (by decide +kernel) (by decide) ?_
        exact law_16 X hI hP hS hl h1 kk
      · refine lv_tableIn (off := 561) (tgt := 593) hx hb dl_32 (by decide +kernel) (by decide +kernel) (by decide +kernel) (by decide) ?_
        exact law_17 X hI hP hS hl h1 h2 kk
      · refine lv_tableIn (off := 594) (tgt := 626) hx hb dl_32 (by decide +kernel) (by decide +kernel) (by decide +kernel) (by decide) ?_
        exact law_18 X hI hP hS hl h1 h2 kk
      · refine lv_tableIn (off := 627) (tgt := 659) hx hb dl_32 (by decide +kernel) (by decide +kernel) (by decide +kernel) (by decide) ?_
        exact law_19 X hI hP hS hl h1 kk
      · refine lv_tableIn (off := 650) (tgt := 682) hx hb dl_32 (by decide +kernel) (by decide +kernel) (by decide +kernel) (by decide) ?_
        exact law_20 X hI hP hS hl h1 kk
      · refine lv_tableIn (off := 673) (tgt := 705) hx hb dl_32 (by decide +kernel) (by decide +kernel) (by decide +kernel) (by decide) ?_
        exact law_21 X hI hP hS hl h1 kk
      · refine lv_tableIn (off := 696) (tgt := 728) hx hb dl_32 (by decide +kernel) (by decide +kernel) (by decide +kernel) (by decide) ?_
        exact law_22 X hI hP hS hl  kk
      · refine lv_tableIn (off := 709) (tgt := 741) hx hb dl_32 (by decide +kernel) (by decide +kernel) (by decide +kernel) (by decide) ?_
        exact law_23 X hI hP hS hl h1 h2 kk
      · refine lv_tableIn (off := 742) (tgt := 774) hx hb dl_32 (by decide +kernel) (by decide +kernel) (by decide +kernel) (by decide) ?_
        exact law_24 X hI hP hS hl h1 kk
      · refine lv_tableIn (off := 765) (tgt := 797) hx hb dl_32 (by decide +kernel) (by decide +kernel) (by decide +kernel) (by decide) ?_
        exact law_25 X hI hP hS hl h1 kk
      · refine lv_tableIn (off := 788) (tgt := 820) hx hb dl_32 (by decide +kernel) (by decide +kernel) (by decide +kernel) (by decide) ?_
        exact law_26 X hI hP hS hl h1 h2 h3 kk
      · refine lv_tableIn (off := 831) (tgt := 863) hx hb dl_32 (by decide +kernel) (by decide +kernel) (by decide +kernel) (by decide) ?_
        exact law_27 X hI hP hS hl h1 h2 h3 kk
      · refine lv_tableIn (off := 874) (tgt := 906) hx hb dl_32 (by decide +kernel) (by decide +kernel) (by decide +kernel) (by decide) ?_
        exact law_28 X hI hP hS hl h1 h2 h3 h4 kk
      · refine lv_tableIn (off := 927) (tgt := 959) hx hb dl_32 (by decide +kernel) (by decide +kernel) (by decide +kernel) (by decide) ?_
        exact law_29 X hI hP hS hl  kk
      · refine lv_tableIn (off := 940) (tgt := 972) hx hb dl_32 (by decide +kernel) (by decide +kernel) (by decide +kernel) (by decide) ?_
        exact law_30 X hI hP hS hl h1 kk
      · refine lv_tableOut (tgt := 995) hx hb dl_32 (Or.inr (by decide +kernel)) (by decide) ?_
        exact kk M H locs hI hP hS
end LAWL
