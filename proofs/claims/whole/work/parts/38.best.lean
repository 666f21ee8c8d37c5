/-! way 3: all ways that are not alike, in order -/
def opN (tr : Int → Int) : Nat → Int
  | 0 => 0
  | i + 1 => if opN tr i < tr i + 1 then tr i + 1 else opN tr i
def opZ (tr : Int → Int) (i : Int) : Int := opN tr i.toNat
theorem opZ_s (tr : Int → Int) {i : Int} (h : 0 ≤ i) : opZ tr (i + 1) = if opZ tr i < tr i + 1 then tr i + 1 else opZ tr i := by
  obtain ⟨m, rfl⟩ := Int.eq_ofNat_of_zero_le h
  rfl
theorem opN_cg {f g : Int → Int} : ∀ n : Nat, (∀ i : Int, 0 ≤ i → i < n → f i = g i) → opN f n = opN g n
  | 0, _ => rfl
  | n + 1, h => by rw [opN, opN, opN_cg n (fun i a b => h i a (by omega)), h n (by omega) (by omega)]
theorem opZ_cg {f g : Int → Int} {n : Int} (h : ∀ i, 0 ≤ i → i < n → f i = g i) : opZ f n = opZ g n := opN_cg _ (fun i a b => h i a (by omega))
theorem opN_b (tr : Int → Int) : ∀ n : Nat, 0 ≤ opN tr n
  | 0 => Int.le_refl _
  | n + 1 => by
    have := opN_b tr n
    rw [opN]
    split <;> omega
theorem opZ_b (tr : Int → Int) (n : Int) : 0 ≤ opZ tr n := opN_b _ _
/-- how many groups the next cell may go into -/
def cZ (tr : Int → Int) (k i : Int) : Int := (if opZ tr i < k - 1 then opZ tr i else k - 1) + 1
theorem cZ_cg {f g : Int → Int} {k i : Int} (h : ∀ j, 0 ≤ j → j < i → f j = g j) : cZ f k i = cZ g k i := by unfold cZ; rw [opZ_cg h]
theorem cZ_b (tr : Int → Int) {k : Int} (i : Int) (hk : 1 ≤ k) : 1 ≤ cZ tr k i ∧ cZ tr k i ≤ k := by
  have := opZ_b tr i
  unfold cZ
  split <;> omega
def cut (n : Int) (tr : Int → Int) : Int → Int := fun j => if 0 ≤ j ∧ j < n then tr j else 0
theorem cut_cg {f g : Int → Int} {n : Int} (h : ∀ i, 0 ≤ i → i < n → f i = g i) : cut n f = cut n g := by
  funext j
  unfold cut
  by_cases e : 0 ≤ j ∧ j < n
  · rw [if_pos e, if_pos e, h j e.1 e.2]
  · rw [if_neg e, if_neg e]
theorem cut_at {tr : Int → Int} {n j : Int} (h0 : 0 ≤ j) (h1 : j < n) : cut n tr j = tr j := if_pos ⟨h0, h1⟩
abbrev Acc := Int × Int × (Int → Int)
def jd (ch : Int → Int) (n k : Int) (tr : Int → Int) (a : Acc) : Acc := if a.1 < lsZ (fun g => sumG ch tr n g) k ∨ (lsZ (fun g => sumG ch tr n g) k = a.1 ∧ grZ (fun g => sumG ch tr n g) k < a.2.1) then (lsZ (fun g => sumG ch tr n g) k, grZ (fun g => sumG ch tr n g) k, cut n tr) else a
theorem jd_cg {ch f g : Int → Int} {n k : Int} (h : ∀ i, 0 ≤ i → i < n → f i = g i) (a : Acc) : jd ch n k f a = jd ch n k g a := by
  unfold jd
  rw [show (fun x => sumG ch f n x) = (fun x => sumG ch g n x) from funext fun x => sumG_cg x (fun _ _ _ => rfl) h, cut_cg h]
def fl (F : Int → Acc → Acc) : Int → Nat → Acc → Acc
  | _, 0, a => a
  | g, c + 1, a => fl F (g + 1) c (F g a)
theorem fl_cg {F G : Int → Acc → Acc} : ∀ (c : Nat) (g : Int) (a : Acc), (∀ x, g ≤ x → x < g + c → ∀ a, F x a = G x a) → fl F g c a = fl G g c a
  | 0, _, _, _ => rfl
  | c + 1, g, a, h => by
    rw [fl, fl, h g (by omega) (by omega)]
    exact fl_cg c (g + 1) _ (fun x h0 h1 => h x (by omega) (by omega))
/-- the best behind all ways that begin with the first n - d places of tr -/
def bs (ch : Int → Int) (n k : Int) : Nat → (Int → Int) → Acc → Acc
  | 0, tr, a => jd ch n k tr a
  | d + 1, tr, a => fl (fun g b => bs ch n k d (upI tr (n - (d + 1)) g) b) 0 (cZ tr k (n - (d + 1))).toNat a
theorem bs_cg {ch : Int → Int} {n k : Int} : ∀ (d : Nat) (f g : Int → Int), (∀ i, 0 ≤ i → i < n - d → f i = g i) → ∀ a, bs ch n k d f a = bs ch n k d g a
  | 0, f, g, h, a => jd_cg (fun i h0 h1 => h i h0 (by omega)) a
  | d + 1, f, g, h, a => by
    rw [bs, bs, cZ_cg (g := g) (fun j j0 j1 => h j j0 (by omega))]
    refine fl_cg _ _ _ (fun x _ _ b => bs_cg d _ _ (fun i i0 i1 => ?_) b)
    unfold upI
    by_cases e : i = n - (d + 1)
    · rw [if_pos e, if_pos e]
    · rw [if_neg e, if_neg e]
      exact h i i0 (by omega)
theorem bs_ccg {ch ch' : Int → Int} {n : Int} (h : ∀ i, 0 ≤ i → i < n → ch i = ch' i) (k : Int) : ∀ (d : Nat) (f : Int → Int) (a : Acc), bs ch n k d f a = bs ch' n k d f a
  | 0, f, a => by
    rw [bs, bs]
    unfold jd
    rw [show (fun x => sumG ch f n x) = (fun x => sumG ch' f n x) from funext fun x => sumG_cg x h (fun _ _ _ => rfl)]
  | d + 1, f, a => by
    rw [bs, bs]
    exact fl_cg _ _ _ (fun x _ _ b => bs_ccg h k d _ b)
/-- what holds of any result -/
def AcB (a : Acc) : Prop := -4 ≤ a.1 ∧ a.1 ≤ 15984 ∧ -4 ≤ a.2.1 ∧ a.2.1 ≤ 15984
def AcG (n k : Int) (a : Acc) : Prop := a.1 < 0 ∨ ∀ i, 0 ≤ i → i < n → 0 ≤ a.2.2 i ∧ a.2.2 i < k
theorem sG_b {ch tr : Int → Int} {n : Int} (hn : n ≤ 16) (hc : ∀ i, 0 ≤ i → i < n → 1 ≤ ch i ∧ ch i ≤ 999) (g : Int) : 0 ≤ sumG ch tr n g ∧ sumG ch tr n g ≤ 15984 := by
  have := sumG_b (v := ch) (h := tr) (n := n) 999 g hn (by omega) (fun i h0 h1 => by have := hc i h0 h1; omega)
  omega
theorem lsG_b {ch tr : Int → Int} {n : Int} (hn : n ≤ 16) (hc : ∀ i, 0 ≤ i → i < n → 1 ≤ ch i ∧ ch i ≤ 999) (k : Int) (hk : 1 ≤ k) : 0 ≤ lsZ (fun g => sumG ch tr n g) k ∧ lsZ (fun g => sumG ch tr n g) k ≤ 15984 ∧ 0 ≤ grZ (fun g => sumG ch tr n g) k ∧ grZ (fun g => sumG ch tr n g) k ≤ 15984 := by
  have a := sG_b (tr := tr) hn hc (flZ (fun g => sumG ch tr n g) k)
  have b := grZ_b (s := fun g => sumG ch tr n g) (a := 0) (b := 15984) hk (fun g _ _ => sG_b hn hc g)
  exact ⟨a.1, a.2, b.1, b.2⟩
theorem jd_B {ch tr : Int → Int} {n k : Int} (hn : n ≤ 16) (hc : ∀ i, 0 ≤ i → i < n → 1 ≤ ch i ∧ ch i ≤ 999) (hk : 1 ≤ k) {a : Acc} (h : AcB a) : AcB (jd ch n k tr a) := by
  have := lsG_b (tr := tr) hn hc k hk
  unfold jd
  split
  · unfold AcB; simp only; omega
  · exact h
theorem jd_G {ch tr : Int → Int} {n k : Int} (hn : n ≤ 16) (hc : ∀ i, 0 ≤ i → i < n → 1 ≤ ch i ∧ ch i ≤ 999) (hk : 1 ≤ k) (ht : ∀ i, 0 ≤ i → i < n → 0 ≤ tr i ∧ tr i < k) {a : Acc} (h : AcG n k a) : ∀ i, 0 ≤ i → i < n → 0 ≤ (jd ch n k tr a).2.2 i ∧ (jd ch n k tr a).2.2 i < k := by
  have l := lsG_b (tr := tr) hn hc k hk
  intro i i0 i1
  unfold jd
  by_cases e : a.1 < lsZ (fun g => sumG ch tr n g) k ∨ (lsZ (fun g => sumG ch tr n g) k = a.1 ∧ grZ (fun g => sumG ch tr n g) k < a.2.1)
  · rw [if_pos e]
    show 0 ≤ cut n tr i ∧ cut n tr i < k
    rw [cut_at i0 i1]
    exact ht i i0 i1
  · rw [if_neg e]
    rcases h with h | h
    · omega
    · exact h i i0 i1
theorem bs_B {ch : Int → Int} {n k : Int} (hn : n ≤ 16) (hc : ∀ i, 0 ≤ i → i < n → 1 ≤ ch i ∧ ch i ≤ 999) (hk : 1 ≤ k) : ∀ (d : Nat) (tr : Int → Int) (a : Acc), AcB a → AcB (bs ch n k d tr a)
  | 0, _, _, h => jd_B hn hc hk h
  | d + 1, tr, a, h => by
    rw [bs]
    have f : ∀ (c : Nat) (g : Int) (a : Acc), AcB a → AcB (fl (fun g b => bs ch n k d (upI tr (n - (d + 1)) g) b) g c a) := by
      intro c
      induction c with
      | zero => intro g a h; exact h
      | succ c ih => intro g a h; exact ih _ _ (bs_B hn hc hk d _ a h)
    exact f _ _ _ h
theorem bs_G {ch : Int → Int} {n k : Int} (hn : n ≤ 16) (hc : ∀ i, 0 ≤ i → i < n → 1 ≤ ch i ∧ ch i ≤ 999) (hk : 1 ≤ k) : ∀ (d : Nat) (tr : Int → Int) (a : Acc), (∀ i, 0 ≤ i → i < n - d → 0 ≤ tr i ∧ tr i < k) → AcG n k a → ∀ i, 0 ≤ i → i < n → 0 ≤ (bs ch n k d tr a).2.2 i ∧ (bs ch n k d tr a).2.2 i < k
  | 0, tr, a, ht, h => jd_G hn hc hk (fun i i0 i1 => ht i i0 (by omega)) h
  | d + 1, tr, a, ht, h => by
    have cb := cZ_b tr (n - (d + 1)) hk
    rw [bs]
    have st : ∀ g, 0 ≤ g → g < cZ tr k (n - (d + 1)) → ∀ a, AcG n k a → ∀ i, 0 ≤ i → i < n → 0 ≤ (bs ch n k d (upI tr (n - (d + 1)) g) a).2.2 i ∧ (bs ch n k d (upI tr (n - (d + 1)) g) a).2.2 i < k := fun g g0 g1 a ha => bs_G hn hc hk d _ a (fun i i0 i1 => by
      unfold upI
      by_cases e : i = n - (d + 1)
      · rw [if_pos e]; omega
      · rw [if_neg e]; exact ht i i0 (by omega)) ha
    have f : ∀ (c : Nat) (g : Int) (a : Acc), 0 ≤ g → g + c ≤ cZ tr k (n - (d + 1)) → (∀ i, 0 ≤ i → i < n → 0 ≤ a.2.2 i ∧ a.2.2 i < k) → ∀ i, 0 ≤ i → i < n → 0 ≤ (fl (fun g b => bs ch n k d (upI tr (n - (d + 1)) g) b) g c a).2.2 i ∧ (fl (fun g b => bs ch n k d (upI tr (n - (d + 1)) g) b) g c a).2.2 i < k := by
      intro c
      induction c with
      | zero => intro g a _ _ h; exact h
      | succ c ih => intro g a g0 gc h; exact ih _ _ (by omega) (by omega) (st g g0 (by omega) a (Or.inr h))
    obtain ⟨c, hcc⟩ : ∃ c, (cZ tr k (n - (d + 1))).toNat = c + 1 := ⟨(cZ tr k (n - (d + 1))).toNat - 1, by omega⟩
    rw [hcc, fl]
    exact f c (0 + 1) _ (by omega) (by omega) (st 0 (by omega) (by omega) a h)
/-- the first way is taken whatever stood there -/
theorem bs_lo {ch : Int → Int} {n k : Int} (hn : n ≤ 16) (hc : ∀ i, 0 ≤ i → i < n → 1 ≤ ch i ∧ ch i ≤ 999) (hk : 1 ≤ k) : ∀ (d : Nat) (tr : Int → Int) (a b : Acc), a.1 < 0 → b.1 < 0 → bs ch n k d tr a = bs ch n k d tr b
  | 0, tr, a, b, ha, hb => by
    have l := lsG_b (tr := tr) hn hc k hk
    rw [bs, bs]
    unfold jd
    rw [if_pos (Or.inl (by omega)), if_pos (Or.inl (by omega))]
  | d + 1, tr, a, b, ha, hb => by
    have cb := cZ_b tr (n - (d + 1)) hk
    obtain ⟨c, hcc⟩ : ∃ c, (cZ tr k (n - (d + 1))).toNat = c + 1 := ⟨(cZ tr k (n - (d + 1))).toNat - 1, by omega⟩
    rw [bs, bs, hcc, fl, fl, bs_lo hn hc hk d _ a b ha hb]
def way3 (ch : Int → Int) (n k : Int) : Int → Int := (bs ch n k n.toNat (fun _ => 0) (-4, -4, fun _ => 0)).2.2
theorem way3_cg {ch ch' : Int → Int} {n : Int} (h : ∀ i, 0 ≤ i → i < n → ch i = ch' i) (k : Int) : way3 ch n k = way3 ch' n k := by
  unfold way3
  rw [bs_ccg h]
theorem way3_b {ch : Int → Int} {n k : Int} (hn : n ≤ 16) (hc : ∀ i, 0 ≤ i → i < n → 1 ≤ ch i ∧ ch i ≤ 999) (hk : 1 ≤ k) : ∀ i, 0 ≤ i → i < n → 0 ≤ way3 ch n k i ∧ way3 ch n k i < k :=
  bs_G hn hc hk _ _ _ (fun i i0 i1 => by omega) (Or.inl (by show (-4 : Int) < 0; omega))
/-- what the groups still lack -/
def lkZ (l : Int) (s : Int → Int) (k : Int) : Int := sumZ (fun g => if 0 < l - s g then l - s g else 0) k
theorem flN_le (s : Int → Int) : ∀ (n : Nat) (g : Int), 0 ≤ g → g ≤ n → s (flN s n) ≤ s g
  | 0, g, g0, g1 => by rw [show g = 0 by omega]; exact Int.le_refl _
  | n + 1, g, g0, g1 => by
    have ih := flN_le s n
    rw [flN]
    by_cases e : s ((n + 1 : Nat) : Int) < s (flN s n)
    · rw [if_pos e]
      by_cases z : g = ((n + 1 : Nat) : Int)
      · rw [z]; exact Int.le_refl _
      · have := ih g g0 (by omega); omega
    · rw [if_neg e]
      by_cases z : g = ((n + 1 : Nat) : Int)
      · rw [z]; omega
      · exact ih g g0 (by omega)
theorem lsZ_le (s : Int → Int) {k g : Int} (g0 : 0 ≤ g) (g1 : g < k) : lsZ s k ≤ s g := flN_le s _ g g0 (by omega)
theorem bs_prune {ch : Int → Int} {n k : Int} (hc : ∀ i, 0 ≤ i → i < n → 1 ≤ ch i ∧ ch i ≤ 999) (hk : 1 ≤ k) : ∀ (d : Nat) (tr : Int → Int) (a : Acc), (d : Int) ≤ n → sumZ ch n - sumZ ch (n - d) < lkZ a.1 (fun g => sumG ch tr (n - d) g) k → bs ch n k d tr a = a
  | 0, tr, a, _, h => by
    rw [bs]
    simp only [Int.natCast_zero, Int.sub_zero] at h
    have ex : ∃ g, 0 ≤ g ∧ g < k ∧ sumG ch tr n g < a.1 := by
      refine Classical.byContradiction fun hx => ?_
      have : lkZ a.1 (fun g => sumG ch tr n g) k ≤ sumZ (fun _ => 0) k := by
        refine sumZ_le (fun g g0 g1 => ?_)
        by_cases e : 0 < a.1 - sumG ch tr n g
        · exact absurd ⟨g, g0, g1, by omega⟩ hx
        · rw [if_neg e]; omega
      rw [sumZ_c0] at this
      omega
    obtain ⟨g, g0, g1, hg⟩ := ex
    have l := lsZ_le (fun g => sumG ch tr n g) g0 g1
    unfold jd
    rw [if_neg]
    omega
  | d + 1, tr, a, hd, h => by
    rw [bs]
    have ci := hc (n - (d + 1)) (by omega) (by omega)
    have e1 : n - ((d + 1 : Nat) : Int) = n - (d + 1) := by omega
    rw [e1] at h
    have st : ∀ g, bs ch n k d (upI tr (n - (d + 1)) g) a = a := by
      intro g
      refine bs_prune hc hk d _ a (by omega) ?_
      have e2 : n - (d : Int) = n - (d + 1) + 1 := by omega
      have e3 : sumZ ch (n - (d : Int)) = sumZ ch (n - (d + 1)) + ch (n - (d + 1)) := by rw [e2, sumZ_s _ (by omega)]
      have le : lkZ a.1 (fun g => sumG ch tr (n - (d + 1)) g) k ≤ lkZ a.1 (fun x => sumG ch (upI tr (n - (d + 1)) g) (n - d) x) k + ch (n - (d + 1)) := by
        have q : lkZ a.1 (fun g => sumG ch tr (n - (d + 1)) g) k ≤ sumZ (fun x => (if 0 < a.1 - sumG ch (upI tr (n - (d + 1)) g) (n - d) x then a.1 - sumG ch (upI tr (n - (d + 1)) g) (n - d) x else 0) + (if x = g then ch (n - (d + 1)) else 0)) k := by
          refine sumZ_le (fun x x0 x1 => ?_)
          have z : sumG ch (upI tr (n - (d + 1)) g) (n - d) x = sumG ch tr (n - (d + 1)) x + if g = x then ch (n - (d + 1)) else 0 := by
            rw [e2, sumG_s _ _ _ (by omega), up_s]
            congr 1
            exact sumG_cg x (fun _ _ _ => rfl) (fun i i0 i1 => up_n _ _ (by omega))
          show (if 0 < a.1 - sumG ch tr (n - (d + 1)) x then a.1 - sumG ch tr (n - (d + 1)) x else 0) ≤ (if 0 < a.1 - sumG ch (upI tr (n - (d + 1)) g) (n - d) x then a.1 - sumG ch (upI tr (n - (d + 1)) g) (n - d) x else 0) + (if x = g then ch (n - (d + 1)) else 0)
          rw [z]
          generalize sumG ch tr (n - (d + 1)) x = X
          by_cases e : g = x
          · rw [if_pos e, if_pos e.symm]; split <;> split <;> omega
          · rw [if_neg e, if_neg (show ¬ x = g from fun q => e q.symm)]; split <;> split <;> omega
        rw [sumZ_add] at q
        replace q : lkZ a.1 (fun g => sumG ch tr (n - (d + 1)) g) k ≤ lkZ a.1 (fun x => sumG ch (upI tr (n - (d + 1)) g) (n - d) x) k + sumZ (fun x => if x = g then ch (n - (d + 1)) else 0) k := q
        have r : sumZ (fun x => if x = g then ch (n - (d + 1)) else 0) k ≤ ch (n - (d + 1)) := by
          by_cases e : 0 ≤ g ∧ g < k
          · rw [sumZ_one _ e.1 e.2]; omega
          · rw [show sumZ (fun x => if x = g then ch (n - (d + 1)) else 0) k = sumZ (fun _ => 0) k from sumZ_cg (fun x x0 x1 => by rw [if_neg (by omega)]), sumZ_c0]; omega
        omega
      omega
    have f : ∀ (c : Nat) (g : Int), fl (fun g b => bs ch n k d (upI tr (n - (d + 1)) g) b) g c a = a := by
      intro c
      induction c with
      | zero => intro g; rfl
      | succ c ih => intro g; rw [fl, st]; exact ih _
    exact f _ _
/-- what comes behind a way, in order -/
def rs (ch : Int → Int) (n k : Int) : Nat → (Int → Int) → Acc → Acc
  | 0, _, a => a
  | d + 1, r, a => fl (fun g b => bs ch n k d (upI r (n - (d + 1)) g) b) (r (n - (d + 1)) + 1) (cZ r k (n - (d + 1)) - (r (n - (d + 1)) + 1)).toNat (rs ch n k d r a)
theorem rs_cg {ch : Int → Int} {n k : Int} {f g : Int → Int} (h : ∀ i, 0 ≤ i → i < n → f i = g i) : ∀ (d : Nat) (a : Acc), (d : Int) ≤ n → rs ch n k d f a = rs ch n k d g a
  | 0, _, _ => rfl
  | d + 1, a, hd => by
    rw [rs, rs, rs_cg h d a (by omega), h _ (by omega) (by omega), cZ_cg (g := g) (fun j j0 j1 => h j j0 (by omega))]
    refine fl_cg _ _ _ (fun x _ _ b => bs_cg d _ _ (fun i i0 i1 => ?_) b)
    unfold upI
    split
    · rfl
    · exact h i i0 (by omega)
def zr (tr : Int → Int) (i : Int) : Int → Int := fun j => if j < i then tr j else 0
theorem bs_rs {ch : Int → Int} {n k : Int} (hk : 1 ≤ k) : ∀ (d : Nat) (tr : Int → Int) (a : Acc), (d : Int) ≤ n → bs ch n k d tr a = rs ch n k d (zr tr (n - d)) (jd ch n k (zr tr (n - d)) a)
  | 0, tr, a, _ => by
    rw [bs, rs]
    refine jd_cg (fun i i0 i1 => ?_) a
    unfold zr
    rw [if_pos (by omega)]
  | d + 1, tr, a, hd => by
    have cb := cZ_b tr (n - (d + 1)) hk
    have e1 : n - ((d + 1 : Nat) : Int) = n - (d + 1) := by omega
    have ez : zr (upI tr (n - (d + 1)) 0) (n - d) = zr tr (n - (d + 1)) := by
      funext j
      unfold zr upI
      by_cases a1 : j < n - (d + 1)
      · rw [if_pos a1, if_pos (by omega), if_neg (by omega)]
      · rw [if_neg a1]
        by_cases a2 : j < n - d
        · rw [if_pos a2, if_pos (by omega)]
        · rw [if_neg a2]
    have z0 : zr tr (n - (d + 1)) (n - (d + 1)) = 0 := if_neg (by omega)
    obtain ⟨c, hcc⟩ : ∃ c, (cZ tr k (n - (d + 1))).toNat = c + 1 := ⟨(cZ tr k (n - (d + 1))).toNat - 1, by omega⟩
    rw [e1, bs, rs, hcc, fl, bs_rs hk d _ a (by omega), ez, z0, cZ_cg (g := tr) (f := zr tr (n - (d + 1))) (fun j j0 j1 => if_pos j1), show (cZ tr k (n - (d + 1)) - (0 + 1)).toNat = c by omega]
    refine fl_cg _ _ _ (fun x _ _ b => bs_cg d _ _ (fun i i0 i1 => ?_) b)
    unfold upI
    by_cases e : i = n - (d + 1)
    · rw [if_pos e, if_pos e]
    · rw [if_neg e, if_neg e]
      exact (if_pos (by omega)).symm
/-- nothing comes behind where no place has more -/
theorem rs_end {ch : Int → Int} {n k : Int} {r : Int → Int} : ∀ (d : Nat) (a : Acc), (d : Int) ≤ n → (∀ j, n - d ≤ j → j < n → cZ r k j ≤ r j + 1) → rs ch n k d r a = a
  | 0, _, _, _ => rfl
  | d + 1, a, hd, h => by
    rw [rs, rs_end d a (by omega) (fun j j0 j1 => h j (by omega) j1), show (cZ r k (n - (d + 1)) - (r (n - (d + 1)) + 1)).toNat = 0 by have := h (n - (d + 1)) (by omega) (by omega); omega]
    rfl
def nxR (n : Int) (r : Int → Int) (i : Int) : Int → Int := fun j => if j < i then r j else if j = i then r i + 1 else if j < n then 0 else r j
theorem rs_step {ch : Int → Int} {n k : Int} {r : Int → Int} (hk : 1 ≤ k) {i : Int} (i0 : 0 ≤ i) (i1 : i < n) (hi : r i + 1 < cZ r k i) (he : ∀ j, i < j → j < n → cZ r k j ≤ r j + 1) (a : Acc) : ∀ d : Nat, n - i ≤ d → (d : Int) ≤ n → rs ch n k d r a = rs ch n k d (nxR n r i) (jd ch n k (nxR n r i) a) := by
  intro d
  have lo : ∀ j, j < i → nxR n r i j = r j := fun j hj => if_pos hj
  have ati : nxR n r i i = r i + 1 := by unfold nxR; rw [if_neg (by omega), if_pos rfl]
  induction d with
  | zero => intro h0 h1; omega
  | succ d ih =>
    intro h0 h1
    by_cases e : n - i = d + 1
    · have ei : n - ((d : Int) + 1) = i := by omega
      obtain ⟨c, hcc⟩ : ∃ c, (cZ r k i - (r i + 1)).toNat = c + 1 := ⟨(cZ r k i - (r i + 1)).toNat - 1, by omega⟩
      rw [rs, rs, ei, rs_end d a (by omega) (fun j j0 j1 => he j (by omega) j1), hcc, fl, bs_rs hk d _ a (by omega)]
      have ez : ∀ x, 0 ≤ x → x < n → zr (upI r i (r i + 1)) (n - d) x = nxR n r i x := by
        intro x x0 x1
        unfold zr upI nxR
        by_cases a1 : x < i
        · rw [if_pos a1, if_pos (by omega), if_neg (by omega)]
        · rw [if_neg a1]
          by_cases a2 : x = i
          · rw [if_pos a2, if_pos (by omega), if_pos a2]
          · rw [if_neg (show ¬ x < n - d by omega), if_neg a2, if_pos x1]
      rw [jd_cg ez, rs_cg ez d _ (by omega), ati, cZ_cg (f := nxR n r i) (g := r) (fun j j0 j1 => lo j j1), show (cZ r k i - (r i + 1 + 1)).toNat = c by omega]
      refine fl_cg _ _ _ (fun x _ _ b => bs_cg d _ _ (fun j j0 j1 => ?_) b)
      unfold upI
      by_cases z : j = i
      · rw [if_pos z, if_pos z]
      · rw [if_neg z, if_neg z]
        exact (lo j (by omega)).symm
    · rw [rs, rs, ih (by omega) (by omega), lo _ (by omega), cZ_cg (f := nxR n r i) (g := r) (fun j j0 j1 => lo j (by omega))]
      refine fl_cg _ _ _ (fun x _ _ b => bs_cg d _ _ (fun j j0 j1 => ?_) b)
      unfold upI
      by_cases z : j = n - (d + 1)
      · rw [if_pos z, if_pos z]
      · rw [if_neg z, if_neg z]
        exact (lo j (by omega)).symm
/-- ways as numbers: each step makes a greater one -/
def vN (r : Int → Int) : Nat → Int
  | 0 => 0
  | j + 1 => 5 * vN r j + r j
theorem vN_cg {f g : Int → Int} : ∀ n : Nat, (∀ i : Int, 0 ≤ i → i < n → f i = g i) → vN f n = vN g n
  | 0, _ => rfl
  | n + 1, h => by rw [vN, vN, vN_cg n (fun i a b => h i a (by omega)), h n (by omega) (by omega)]
theorem vN_b {r : Int → Int} : ∀ n : Nat, (∀ i : Int, 0 ≤ i → i < n → 0 ≤ r i ∧ r i < 5) → 0 ≤ vN r n ∧ vN r n < 5 ^ n
  | 0, _ => ⟨Int.le_refl _, by show (0 : Int) < 1; omega⟩
  | n + 1, h => by
    have ih := vN_b n (fun i a b => h i a (by omega))
    have q := h n (by omega) (by omega)
    rw [vN, Int.pow_succ]
    omega
theorem vN_lt {r : Int → Int} {n : Nat} (hr : ∀ i : Int, 0 ≤ i → i < n → 0 ≤ r i ∧ r i < 5) {i : Nat} (hi : i < n) : ∀ m : Nat, i < m → m ≤ n → vN r m < vN (nxR n r i) m
  | 0, z, _ => by omega
  | m + 1, z, hm => by
    rw [vN, vN]
    by_cases e : i = m
    · subst e
      rw [vN_cg (f := nxR n r i) (g := r) i (fun j j0 j1 => if_pos j1)]
      have : nxR n r i i = r i + 1 := by unfold nxR; rw [if_neg (by omega), if_pos rfl]
      rw [this]
      omega
    · have ih := vN_lt hr hi m (by omega) (by omega)
      have q := hr m (by omega) (by omega)
      have : nxR n r i m = 0 := by unfold nxR; rw [if_neg (by omega), if_neg (by omega), if_pos (by omega)]
      rw [this]
      omega
