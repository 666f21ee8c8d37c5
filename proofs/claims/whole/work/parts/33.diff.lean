/-! rows put in order; way 2 -/
theorem sumN_add (f g : Int → Int) : ∀ n : Nat, sumN (fun i => f i + g i) n = sumN f n + sumN g n
  | 0 => rfl
  | n + 1 => by
    have := sumN_add f g n
    simp only [sumN]
    omega
theorem sumZ_add (f g : Int → Int) (n : Int) : sumZ (fun i => f i + g i) n = sumZ f n + sumZ g n := sumN_add f g _
theorem sumN_up (f : Int → Int) {a : Int} (v : Int) (h : 0 ≤ a) : ∀ n : Nat, sumN (upI f a v) n = sumN f n + if a < n then v - f a else 0
  | 0 => by simp only [sumN]; rw [if_neg (by omega)]; rfl
  | n + 1 => by
    have ih := sumN_up f v h n
    simp only [sumN]
    rw [ih]
    unfold upI
    by_cases e : (n : Int) = a
    · rw [if_pos e, if_neg (by omega), if_pos (by omega), e]; omega
    · rw [if_neg e]
      by_cases l : a < n
      · rw [if_pos l, if_pos (by omega)]; omega
      · rw [if_neg l, if_neg (by omega)]; omega
theorem sumZ_up (f : Int → Int) {a n : Int} (v : Int) (h : 0 ≤ a) (h1 : a < n) : sumZ (upI f a v) n = sumZ f n + (v - f a) := by
  unfold sumZ
  rw [sumN_up f v h, if_pos (by omega)]
theorem sumN_lt1 (c : Int) (h0 : 0 ≤ c) : ∀ n : Nat, sumN (fun x => if x < c then 1 else 0) n = if c ≤ n then c else n
  | 0 => by
    simp only [sumN]
    split <;> omega
  | n + 1 => by
    simp only [sumN]
    rw [sumN_lt1 c h0 n]
    by_cases a : c ≤ n
    · rw [if_pos a, if_neg (by omega), if_pos (by omega)]; omega
    · rw [if_neg a, if_pos (by omega)]
      split <;> omega
theorem sumZ_lt1 {c n : Int} (h0 : 0 ≤ c) (h1 : c ≤ n) : sumZ (fun x => if x < c then 1 else 0) n = c := by
  unfold sumZ
  rw [sumN_lt1 c h0, if_pos (by omega)]
theorem sumZ_one {a n : Int} (v : Int) (h0 : 0 ≤ a) (h1 : a < n) : sumZ (fun x => if x = a then v else 0) n = v := by
  have e : (fun x => if x = a then v else 0) = upI (fun _ => 0) a v := rfl
  rw [e, sumZ_up _ _ h0 h1, sumZ_c0]
  omega
def PermF (s : Int → Int) (k : Int) : Prop := ∀ f : Int → Int, sumZ (fun i => f (s i)) k = sumZ f k
theorem PermF.xc {s : Int → Int} {k a b : Int} (h : PermF s k) (a0 : 0 ≤ a) (a1 : a < k) (b0 : 0 ≤ b) (b1 : b < k) : PermF (xcF s a b) k := by
  intro f
  have e : (fun i => f (xcF s a b i)) = upI (upI (fun i => f (s i)) a (f (s b))) b (f (s a)) := by
    funext i
    unfold xcF upI
    by_cases e1 : i = b
    · rw [if_pos e1, if_pos e1]
    · rw [if_neg e1, if_neg e1]
      by_cases e2 : i = a
      · rw [if_pos e2, if_pos e2]
      · rw [if_neg e2, if_neg e2]
  rw [e, sumZ_up _ _ b0 b1, sumZ_up _ _ a0 a1, h f]
  unfold upI
  by_cases z : b = a
  · rw [if_pos z]; subst z; omega
  · rw [if_neg z]; simp only; omega
def Srt (q : Int → Int) (k : Int) : Prop := ∀ i j, 0 ≤ i → i < j → j < k → q j ≤ q i
theorem srt_at {K s : Int → Int} {k : Int} (hp : PermF s k) (hs : Srt (fun i => K (s i)) k) : ∀ i, 0 ≤ i → i < k → K (s i) = K (ordZ K k i) := by
  intro i i0 i1
  obtain ⟨j0, j1, hj⟩ := ordZ_b K i0 i1
  generalize ordZ K k i = j at *
  have hA : sumZ (fun x => if K j < K x then 1 else 0) k ≤ i := by
    rw [← hj]
    refine sumZ_le (fun x _ _ => ?_)
    by_cases e : K j < K x
    · rw [if_pos e, if_pos (Or.inl e)]; omega
    · rw [if_neg e]; split <;> omega
  have hB : i < sumZ (fun x => if K j ≤ K x then 1 else 0) k := by
    rw [← hj]
    refine sumZ_lt (x := j) (fun x _ _ => ?_) j0 j1 ?_
    · by_cases e : K j ≤ K x
      · rw [if_pos e]; split <;> omega
      · rw [if_neg e, if_neg (by omega)]; omega
    · rw [if_pos (Int.le_refl _), if_neg (by omega)]; omega
  have eA := hp (fun x => if K j < K x then 1 else 0)
  have eB := hp (fun x => if K j ≤ K x then 1 else 0)
  rcases Int.lt_trichotomy (K (s i)) (K j) with z | z | z
  · have : sumZ (fun x => if K j ≤ K (s x) then 1 else 0) k ≤ sumZ (fun x => if x < i then 1 else 0) k := by
      refine sumZ_le (fun x x0 x1 => ?_)
      by_cases e : x < i
      · rw [if_pos e]; split <;> omega
      · rw [if_neg e, if_neg]
        · omega
        · by_cases e2 : x = i
          · rw [e2]; omega
          · have := hs i x i0 (by omega) x1
            simp only at this
            omega
    rw [sumZ_lt1 i0 (by omega)] at this
    omega
  · exact z
  · have : sumZ (fun x => if x < i + 1 then 1 else 0) k ≤ sumZ (fun x => if K j < K (s x) then 1 else 0) k := by
      refine sumZ_le (fun x x0 x1 => ?_)
      by_cases e : x < i + 1
      · rw [if_pos e, if_pos]
        · omega
        · by_cases e2 : x = i
          · rw [e2]; omega
          · have := hs x i x0 (by omega) i1
            simp only at this
            omega
      · rw [if_neg e]; split <;> omega
    rw [sumZ_lt1 (by omega) (by omega)] at this
    omega
/-- a row put in order by exchanges, inwards -/
def ExI (q : Int → Int) (k a b : Int) : Prop := (∀ i j, 0 ≤ i → i < j → j < k → i < a → q j ≤ q i) ∧ ∀ j, a < j → j < b → q j ≤ q a
theorem ExI.sw {q : Int → Int} {k a b : Int} (h : ExI q k a b) (a0 : 0 ≤ a) (ab : a < b) (bk : b < k) (hq : q a < q b) : ExI (xcF q a b) k a (b + 1) := by
  have hb := h.2
  refine ⟨fun i j i0 ij jk ia => ?_, fun j aj jb => ?_⟩
  · unfold xcF upI
    have e1 := h.1 i j i0 ij jk ia
    have e2 := h.1 i a i0 ia (by omega) ia
    have e3 := h.1 i b i0 (by omega) bk ia
    rw [if_neg (show ¬ i = b by omega), if_neg (show ¬ i = a by omega)]
    by_cases z : j = b
    · rw [if_pos z]; exact e2
    · rw [if_neg z]
      by_cases z2 : j = a
      · rw [if_pos z2]; exact e3
      · rw [if_neg z2]; exact e1
  · unfold xcF upI
    rw [if_neg (show ¬ a = b by omega), if_pos rfl]
    by_cases z : j = b
    · rw [if_pos z]; omega
    · rw [if_neg z, if_neg (by omega)]
      have := hb j aj (by omega)
      omega
theorem ExI.st {q : Int → Int} {k a b : Int} (h : ExI q k a b) (hq : q b ≤ q a) : ExI q k a (b + 1) := ⟨h.1, fun j aj jb => by
  by_cases z : j = b
  · rw [z]; exact hq
  · exact h.2 j aj (by omega)⟩
theorem ExI.nx {q : Int → Int} {k a b : Int} (h : ExI q k a b) (hb : k ≤ b) : ExI q k (a + 1) (a + 1 + 1) := ⟨fun i j i0 ij jk ia => by
  by_cases z : i = a
  · rw [z]; rw [z] at ij; exact h.2 j ij (by omega)
  · exact h.1 i j i0 ij jk (by omega), fun j aj jb => by omega⟩
/-- a row put in order by insertion -/
def InI (q : Int → Int) (g h : Int) : Prop := ∀ i j, 0 ≤ i → i < j → j ≤ g → j ≠ h → q j ≤ q i
theorem InI.sw {q : Int → Int} {g h : Int} (p : InI q g h) (h1 : 1 ≤ h) (hg : h ≤ g) (hq : q (h - 1) < q h) : InI (xcF q h (h - 1)) g (h - 1) := by
  intro i j i0 ij jg jh
  unfold xcF upI
  by_cases z : j = h
  · subst z
    rw [if_neg (show ¬ j = j - 1 by omega), if_pos rfl]
    by_cases z2 : i = j - 1
    · rw [if_pos z2]; omega
    · rw [if_neg z2, if_neg (by omega)]
      exact p i (j - 1) i0 (by omega) (by omega) (by omega)
  · rw [if_neg jh, if_neg z]
    by_cases z2 : i = h - 1
    · rw [if_pos z2]; exact p h j (by omega) (by omega) jg z
    · rw [if_neg z2]
      by_cases z3 : i = h
      · rw [if_pos z3]; exact p (h - 1) j (by omega) (by omega) jg z
      · rw [if_neg z3]; exact p i j i0 ij jg z
theorem InI.en {q : Int → Int} {g h : Int} (p : InI q g h) (hh : h ≤ 0 ∨ q h ≤ q (h - 1)) (h0 : 0 ≤ h) (hg : h ≤ g) : Srt q (g + 1) := by
  intro i j i0 ij jg
  by_cases z : j = h
  · subst z
    rcases hh with hh | hh
    · omega
    · by_cases z2 : i = j - 1
      · rw [z2]; exact hh
      · have := p i (j - 1) i0 (by omega) (by omega) (by omega)
        omega
  · exact p i j i0 ij (by omega) z
theorem Srt.inI {q : Int → Int} {g : Int} (p : Srt q g) : InI q g g := fun i j i0 ij jg jh => p i j i0 ij (by omega)
/-- what the cells that p takes hold -/
def sP (ch : Int → Int) (p : Int → Bool) (n : Int) : Int := sumZ (fun i => if p i then ch i else 0) n
theorem sP_cg {ch ch' : Int → Int} {p q : Int → Bool} {n : Int} (h : ∀ i, 0 ≤ i → i < n → p i = q i ∧ ch i = ch' i) : sP ch p n = sP ch' q n := sumZ_cg (fun i h0 h1 => by rw [(h i h0 h1).1, (h i h0 h1).2])
theorem sP_or (ch : Int → Int) {p q : Int → Bool} {n : Int} (h : ∀ i, 0 ≤ i → i < n → ¬ (p i = true ∧ q i = true)) : sP ch (fun i => p i || q i) n = sP ch p n + sP ch q n := by
  unfold sP
  rw [← sumZ_add]
  refine sumZ_cg (fun i h0 h1 => ?_)
  have hh := h i h0 h1
  clear h
  simp only
  by_cases e1 : p i = true
  · by_cases e2 : q i = true
    · exact absurd ⟨e1, e2⟩ hh
    · rw [if_pos (by rw [e1]; rfl), if_pos e1, if_neg e2]; omega
  · by_cases e2 : q i = true
    · rw [if_pos (by rw [e2, Bool.or_true]), if_neg e1, if_pos e2]; omega
    · rw [if_neg (by rw [Bool.or_eq_true]; exact fun z => z.elim e1 e2), if_neg e1, if_neg e2]; omega
theorem sP_b {ch : Int → Int} (p : Int → Bool) {n : Int} (hn : n ≤ 16) (hc : ∀ i, 0 ≤ i → i < n → 1 ≤ ch i ∧ ch i ≤ 999) : 0 ≤ sP ch p n ∧ sP ch p n ≤ 15984 := by
  have := sumZ_b (f := fun i => if p i then ch i else 0) (n := n) 999 hn (by omega) (fun i h0 h1 => by have := hc i h0 h1; split <;> omega)
  exact ⟨this.1, Int.le_trans this.2 (by omega)⟩
theorem sP_pos {ch : Int → Int} {p : Int → Bool} {n i : Int} (hc : ∀ i, 0 ≤ i → i < n → 1 ≤ ch i ∧ ch i ≤ 999) (i0 : 0 ≤ i) (i1 : i < n) (h : p i = true) : 0 < sP ch p n := by
  have := sumZ_lt (f := fun _ => 0) (g := fun i => if p i then ch i else 0) (x := i) (fun j j0 j1 => by have := hc j j0 j1; split <;> omega) i0 i1 (by have := hc i i0 i1; simp only [h, if_true]; omega)
  rw [sumZ_c0] at this
  exact this
theorem sP_0 {ch : Int → Int} {p : Int → Bool} {n : Int} (h : ∀ i, 0 ≤ i → i < n → p i = false) : sP ch p n = 0 := by
  rw [show sP ch p n = sumZ (fun _ => 0) n from sumZ_cg (fun i h0 h1 => by rw [h i h0 h1]; rfl)]
  exact sumZ_c0 n
/-- what puts bundles in order -/
def dK (ch : Int → Int) (n : Int) (p : Int → Bool) : Int := 131072 * sP ch p n - lwP p n
theorem dK_lt {ch : Int → Int} {n : Int} (p q : Int → Bool) (hn : n ≤ 16) : dK ch n q < dK ch n p ↔ sP ch q n < sP ch p n ∨ (sP ch p n = sP ch q n ∧ lwP p n < lwP q n) := by
  have b1 := lwP_b p hn
  have b2 := lwP_b q hn
  unfold dK
  omega
theorem dK_eq {ch : Int → Int} {n : Int} {p q : Int → Bool} (hn : n ≤ 16) (h : dK ch n p = dK ch n q) : sP ch p n = sP ch q n ∧ lwP p n = lwP q n := by
  have b1 := lwP_b p hn
  have b2 := lwP_b q hn
  unfold dK at h
  omega
/-- cells with a code -/
def pr (H : Int → Int) (c : Int) : Int → Bool := fun i => decide (H i = c)
theorem pr_t {H : Int → Int} {c i : Int} : pr H c i = true ↔ H i = c := by unfold pr; exact decide_eq_true_iff
def dD (ch : Int → Int) (n k : Int) (H : Int → Int) : Int → Int := fun p => sP ch (pr H (5 * p + 0)) n - sP ch (pr H (5 * p + (k - 1))) n
def dU (part : Int → Int) (but : Int) : Int → Int := fun p => if part p = 1 ∧ p ≠ but then 1 else 0
def dW (ch : Int → Int) (n k : Int) (H part : Int → Int) (but : Int) : Int := stZ (dU part but) (dD ch n k H) n 1
def mp (H : Int → Int) (k a b g : Int) : Int → Bool := fun i => pr H (5 * a + g) i || pr H (5 * b + (k - 1 - g)) i
theorem mp_t {H : Int → Int} {k a b g i : Int} : mp H k a b g i = true ↔ H i = 5 * a + g ∨ H i = 5 * b + (k - 1 - g) := by
  unfold mp
  rw [Bool.or_eq_true, pr_t, pr_t]
def mK (ch : Int → Int) (n k : Int) (H : Int → Int) (a b : Int) : Int → Int := fun g => dK ch n (mp H k a b g)
def jH (ch : Int → Int) (n k : Int) (H : Int → Int) (a b : Int) : Int → Int := fun i => if H i / 5 = a then 5 * a + rkZ (mK ch n k H a b) k (H i % 5) else if H i / 5 = b then 5 * a + rkZ (mK ch n k H a b) k (k - 1 - H i % 5) else H i
def mn (a b : Int) : Int := if a < b then a else b
def mx (a b : Int) : Int := if a < b then b else a
def dS (ch : Int → Int) (n k : Int) : Nat → (Int → Int) × (Int → Int)
  | 0 => (fun i => 5 * i, fun _ => 1)
  | m + 1 => (jH ch n k (dS ch n k m).1 (mn (dW ch n k (dS ch n k m).1 (dS ch n k m).2 (-4)) (dW ch n k (dS ch n k m).1 (dS ch n k m).2 (dW ch n k (dS ch n k m).1 (dS ch n k m).2 (-4)))) (mx (dW ch n k (dS ch n k m).1 (dS ch n k m).2 (-4)) (dW ch n k (dS ch n k m).1 (dS ch n k m).2 (dW ch n k (dS ch n k m).1 (dS ch n k m).2 (-4)))), upI (dS ch n k m).2 (mx (dW ch n k (dS ch n k m).1 (dS ch n k m).2 (-4)) (dW ch n k (dS ch n k m).1 (dS ch n k m).2 (dW ch n k (dS ch n k m).1 (dS ch n k m).2 (-4)))) 0)
def d1 (ch : Int → Int) (n k : Int) (m : Nat) : Int := dW ch n k (dS ch n k m).1 (dS ch n k m).2 (-4)
def d2 (ch : Int → Int) (n k : Int) (m : Nat) : Int := dW ch n k (dS ch n k m).1 (dS ch n k m).2 (d1 ch n k m)
theorem dS_s (ch : Int → Int) (n k : Int) (m : Nat) : dS ch n k (m + 1) = (jH ch n k (dS ch n k m).1 (mn (d1 ch n k m) (d2 ch n k m)) (mx (d1 ch n k m) (d2 ch n k m)), upI (dS ch n k m).2 (mx (d1 ch n k m) (d2 ch n k m)) 0) := rfl
def way2 (ch : Int → Int) (n k : Int) : Int → Int := (dS ch n k (n - 1).toNat).1
theorem sP_fcg {ch ch' : Int → Int} {n : Int} (h : ∀ i, 0 ≤ i → i < n → ch i = ch' i) (p : Int → Bool) : sP ch p n = sP ch' p n := sP_cg (fun i h0 h1 => ⟨rfl, h i h0 h1⟩)
theorem dD_cg {ch ch' : Int → Int} {n : Int} (h : ∀ i, 0 ≤ i → i < n → ch i = ch' i) (k : Int) (H : Int → Int) : dD ch n k H = dD ch' n k H := by
  funext p
  unfold dD
  rw [sP_fcg h, sP_fcg h]
theorem mK_cg {ch ch' : Int → Int} {n : Int} (h : ∀ i, 0 ≤ i → i < n → ch i = ch' i) (k : Int) (H : Int → Int) (a b : Int) : mK ch n k H a b = mK ch' n k H a b := by
  funext p
  unfold mK dK
  rw [sP_fcg h]
theorem dS_cg {ch ch' : Int → Int} {n : Int} (h : ∀ i, 0 ≤ i → i < n → ch i = ch' i) (k : Int) : ∀ m, dS ch n k m = dS ch' n k m ∧ d1 ch n k m = d1 ch' n k m ∧ d2 ch n k m = d2 ch' n k m := by
  have hW : ∀ H part but, dW ch n k H part but = dW ch' n k H part but := fun H part but => by unfold dW; rw [dD_cg h]
  have hm : ∀ m, dS ch n k m = dS ch' n k m → d1 ch n k m = d1 ch' n k m ∧ d2 ch n k m = d2 ch' n k m := fun m e => by
    have e1 : d1 ch n k m = d1 ch' n k m := by unfold d1; rw [e, hW]
    refine ⟨e1, ?_⟩
    unfold d2
    rw [e, e1, hW]
  have hs : ∀ m, dS ch n k m = dS ch' n k m := by
    intro m
    induction m with
    | zero => rfl
    | succ m ih =>
      rw [dS_s, dS_s, (hm m ih).1, (hm m ih).2, ih]
      unfold jH
      rw [mK_cg h]
  exact fun m => ⟨hs m, hm m (hs m)⟩
theorem way2_cg {ch ch' : Int → Int} {n : Int} (h : ∀ i, 0 ≤ i → i < n → ch i = ch' i) (k : Int) : way2 ch n k = way2 ch' n k := by
  unfold way2
  rw [(dS_cg h k _).1]
theorem stN_ex {home has : Int → Int} {g i : Int} (i0 : 0 ≤ i) (h : home i = g) : ∀ n : Nat, i < n → stN home has g n ≠ -4
  | 0, z => by omega
  | n + 1, z => by
    rw [stN]
    by_cases e : i = n
    · subst e
      by_cases s : stN home has g n = -4
      · rw [if_pos ⟨h, Or.inl s⟩]; omega
      · split
        · omega
        · exact s
    · have := stN_ex (has := has) i0 h n (by omega)
      split
      · omega
      · exact this
theorem stZ_ex {home has : Int → Int} {n g i : Int} (i0 : 0 ≤ i) (i1 : i < n) (h : home i = g) : stZ home has n g ≠ -4 := stN_ex i0 h n.toNat (by omega)
/-- what holds m joins on -/
def DI (n k : Int) (m : Nat) (H part : Int → Int) : Prop := (∀ i, 0 ≤ i → i < n → 0 ≤ H i ∧ H i % 5 < k ∧ H i / 5 < n ∧ part (H i / 5) = 1) ∧ (∀ p, part p = 0 ∨ part p = 1) ∧ part 0 = 1 ∧ sumZ part n = n - m
theorem DI.h {n k : Int} {m : Nat} {H part : Int → Int} (d : DI n k m H part) : ∀ i, 0 ≤ i → i < n → 0 ≤ H i ∧ H i % 5 < k ∧ H i / 5 < n ∧ part (H i / 5) = 1 := d.1
theorem DI.p {n k : Int} {m : Nat} {H part : Int → Int} (d : DI n k m H part) : ∀ p, part p = 0 ∨ part p = 1 := d.2.1
theorem DI.z {n k : Int} {m : Nat} {H part : Int → Int} (d : DI n k m H part) : part 0 = 1 := d.2.2.1
theorem DI.s {n k : Int} {m : Nat} {H part : Int → Int} (d : DI n k m H part) : sumZ part n = n - m := d.2.2.2
theorem DI.one {n k : Int} {m : Nat} {H part : Int → Int} (d : DI n k m H part) (ch : Int → Int) (hm : (m : Int) + 2 ≤ n) : 0 ≤ dW ch n k H part (-4) ∧ dW ch n k H part (-4) < n ∧ part (dW ch n k H part (-4)) = 1 := by
  have e := stZ_ex (home := dU part (-4)) (has := dD ch n k H) (n := n) (g := 1) (i := 0) (by omega) (by omega) (if_pos ⟨d.z, by omega⟩)
  have b := (stZ_b (dU part (-4)) (dD ch n k H) (n := n) 1 (by omega)).resolve_left e
  refine ⟨b.1, b.2.1, ?_⟩
  have q := b.2.2
  unfold dU at q
  split at q
  · rename_i hq; exact hq.1
  · omega
theorem DI.two {n k : Int} {m : Nat} {H part : Int → Int} (d : DI n k m H part) (ch : Int → Int) (hm : (m : Int) + 2 ≤ n) {a : Int} (a0 : 0 ≤ a) (a1 : a < n) (ha : part a = 1) : 0 ≤ dW ch n k H part a ∧ dW ch n k H part a < n ∧ part (dW ch n k H part a) = 1 ∧ dW ch n k H part a ≠ a := by
  have ex : ∃ i, 0 ≤ i ∧ i < n ∧ part i = 1 ∧ i ≠ a := by
    refine Classical.byContradiction fun hc => ?_
    have : sumZ part n ≤ sumZ (fun x => if x = a then 1 else 0) n := by
      refine sumZ_le (fun x x0 x1 => ?_)
      rcases d.p x with e | e
      · rw [e]; split <;> omega
      · by_cases z : x = a
        · rw [if_pos z]; omega
        · exact absurd ⟨x, x0, x1, e, z⟩ hc
    rw [sumZ_one 1 a0 a1, d.s] at this
    omega
  obtain ⟨i, i0, i1, i2, i3⟩ := ex
  have e := stZ_ex (home := dU part a) (has := dD ch n k H) (n := n) (g := 1) i0 i1 (if_pos ⟨i2, i3⟩)
  have b := (stZ_b (dU part a) (dD ch n k H) (n := n) 1 (by omega)).resolve_left e
  have q := b.2.2
  unfold dU at q
  split at q
  · rename_i hq; exact ⟨b.1, b.2.1, hq.1, hq.2⟩
  · omega
theorem jH_at {ch H part : Int → Int} {n k : Int} {m : Nat} (d : DI n k m H part) (k0 : 2 ≤ k) (k1 : k ≤ 5) {a b : Int} (ab : a ≠ b) {i : Int} (i0 : 0 ≤ i) (i1 : i < n) :
    (H i / 5 = a ∧ ∃ g, 0 ≤ g ∧ g < k ∧ mp H k a b g i = true ∧ jH ch n k H a b i = 5 * a + rkZ (mK ch n k H a b) k g) ∨ (H i / 5 = b ∧ ∃ g, 0 ≤ g ∧ g < k ∧ mp H k a b g i = true ∧ jH ch n k H a b i = 5 * a + rkZ (mK ch n k H a b) k g) ∨ (H i / 5 ≠ a ∧ H i / 5 ≠ b ∧ (∀ g, 0 ≤ g → g < k → mp H k a b g i = false) ∧ jH ch n k H a b i = H i) := by
  have q := d.h i i0 i1
  by_cases e1 : H i / 5 = a
  · refine Or.inl ⟨e1, H i % 5, by omega, by omega, mp_t.mpr (Or.inl (by omega)), if_pos e1⟩
  · by_cases e2 : H i / 5 = b
    · refine Or.inr (Or.inl ⟨e2, k - 1 - H i % 5, by omega, by omega, mp_t.mpr (Or.inr (by omega)), ?_⟩)
      unfold jH
      rw [if_neg e1, if_pos e2]
    · refine Or.inr (Or.inr ⟨e1, e2, fun g g0 g1 => ?_, ?_⟩)
      · cases hb : mp H k a b g i
        · rfl
        · have := mp_t.mp hb; omega
      · unfold jH
        rw [if_neg e1, if_neg e2]
theorem mp_one {H : Int → Int} {k a b g g' i : Int} (k1 : k ≤ 5) (ab : a ≠ b) (g0 : 0 ≤ g) (g1 : g < k) (g0' : 0 ≤ g') (g1' : g' < k) (h : mp H k a b g i = true) (h' : mp H k a b g' i = true) : g = g' := by
  have := mp_t.mp h
  have := mp_t.mp h'
  omega
theorem jH_pr {ch H part : Int → Int} {n k : Int} {m : Nat} (d : DI n k m H part) (k0 : 2 ≤ k) (k1 : k ≤ 5) {a b : Int} (ab : a ≠ b) {i j : Int} (i0 : 0 ≤ i) (i1 : i < n) (j0 : 0 ≤ j) (j1 : j < k) : pr (jH ch n k H a b) (5 * a + j) i = mp H k a b (ordZ (mK ch n k H a b) k j) i := by
  have ob := ordZ_b (mK ch n k H a b) j0 j1
  rw [Bool.eq_iff_iff, pr_t]
  have key : ∀ g, 0 ≤ g → g < k → mp H k a b g i = true → jH ch n k H a b i = 5 * a + rkZ (mK ch n k H a b) k g → (jH ch n k H a b i = 5 * a + j ↔ mp H k a b (ordZ (mK ch n k H a b) k j) i = true) := by
    intro g g0 g1 hg e
    rw [e]
    constructor
    · intro z
      have : j = rkZ (mK ch n k H a b) k g := by omega
      rw [this, ordZ_at _ g0 g1]
      exact hg
    · intro z
      have := mp_one k1 ab g0 g1 ob.1 ob.2.1 hg z
      rw [this, ob.2.2]
  rcases jH_at (ch := ch) d k0 k1 ab i0 i1 with ⟨_, g, g0, g1, hg, e⟩ | ⟨_, g, g0, g1, hg, e⟩ | ⟨e1, e2, hm, e⟩
  · exact key g g0 g1 hg e
  · exact key g g0 g1 hg e
  · rw [e, hm _ ob.1 ob.2.1]
    constructor
    · intro z; omega
    · intro z; cases z
theorem jH_oth {ch H part : Int → Int} {n k : Int} {m : Nat} (d : DI n k m H part) (k0 : 2 ≤ k) (k1 : k ≤ 5) {a b : Int} (ab : a ≠ b) {i j c : Int} (i0 : 0 ≤ i) (i1 : i < n) (ca : c ≠ a) (cb : c ≠ b) (j0 : 0 ≤ j) (j1 : j < k) : pr (jH ch n k H a b) (5 * c + j) i = pr H (5 * c + j) i := by
  rw [Bool.eq_iff_iff, pr_t, pr_t]
  rcases jH_at (ch := ch) d k0 k1 ab i0 i1 with ⟨e1, g, g0, g1, hg, e⟩ | ⟨e1, g, g0, g1, hg, e⟩ | ⟨e1, e2, hm, e⟩
  · have := rkZ_b (mK ch n k H a b) g0 g1
    omega
  · have := rkZ_b (mK ch n k H a b) g0 g1
    omega
  · rw [e]
theorem DI.nx {ch H part : Int → Int} {n k : Int} {m : Nat} (d : DI n k m H part) (k0 : 2 ≤ k) (k1 : k ≤ 5) {a b : Int} (ab : a < b) (a0 : 0 ≤ a) (b1 : b < n) (pa : part a = 1) (pb : part b = 1) : DI n k (m + 1) (jH ch n k H a b) (upI part b 0) := by
  refine ⟨fun i i0 i1 => ?_, fun p => ?_, ?_, ?_⟩
  · have q := d.h i i0 i1
    rcases jH_at (ch := ch) d k0 k1 (show a ≠ b by omega) i0 i1 with ⟨e1, g, g0, g1, hg, e⟩ | ⟨e1, g, g0, g1, hg, e⟩ | ⟨e1, e2, hm, e⟩
    · have r := rkZ_b (mK ch n k H a b) g0 g1
      have z : jH ch n k H a b i / 5 = a := by omega
      rw [z, up_n _ _ (by omega)]
      omega
    · have r := rkZ_b (mK ch n k H a b) g0 g1
      have z : jH ch n k H a b i / 5 = a := by omega
      rw [z, up_n _ _ (by omega)]
      omega
    · rw [e, up_n _ _ e2]
      exact q
  · unfold upI
    split
    · exact Or.inl rfl
    · exact d.p p
  · rw [up_n _ _ (by omega)]; exact d.z
  · rw [sumZ_up _ _ (by omega) b1, d.s, pb]
    omega
theorem DI.st {n k : Int} (n0 : 0 ≤ n) (k0 : 2 ≤ k) : DI n k 0 (fun i => 5 * i) (fun _ => 1) := ⟨fun i i0 i1 => ⟨by show 0 ≤ 5 * i; omega, by show 5 * i % 5 < k; omega, by show 5 * i / 5 < n; omega, rfl⟩, fun _ => Or.inr rfl, rfl, by rw [sumZ_c1 n0]; omega⟩
theorem mn_mx {a b : Int} (h : a ≠ b) : mn a b < mx a b ∧ ((mn a b = a ∧ mx a b = b) ∨ (mn a b = b ∧ mx a b = a)) := by
  unfold mn mx
  split <;> omega
theorem dS_I (ch : Int → Int) {n k : Int} (n0 : 0 ≤ n) (k0 : 2 ≤ k) (k1 : k ≤ 5) : ∀ m : Nat, (m = 0 ∨ (m : Int) + 1 ≤ n) → DI n k m (dS ch n k m).1 (dS ch n k m).2
  | 0, _ => DI.st n0 k0
  | m + 1, h => by
    have ih := dS_I ch n0 k0 k1 m (by omega)
    obtain ⟨x0, x1, x2⟩ := ih.one ch (by omega)
    obtain ⟨y0, y1, y2, y3⟩ := ih.two ch (by omega) x0 x1 x2
    rw [dS_s]
    have e := mn_mx (a := d1 ch n k m) (b := d2 ch n k m) (fun z => y3 z.symm)
    have x0 : 0 ≤ d1 ch n k m := x0
    have x1 : d1 ch n k m < n := x1
    have x2 : (dS ch n k m).2 (d1 ch n k m) = 1 := x2
    have y0 : 0 ≤ d2 ch n k m := y0
    have y1 : d2 ch n k m < n := y1
    have y2 : (dS ch n k m).2 (d2 ch n k m) = 1 := y2
    refine ih.nx k0 k1 e.1 (by omega) (by omega) ?_ ?_
    · rcases e.2 with q | q
      · rw [q.1]; exact x2
      · rw [q.1]; exact y2
    · rcases e.2 with q | q
      · rw [q.2]; exact y2
      · rw [q.2]; exact x2
/-- the last state: one part, cell by cell its group -/
theorem way2_b (ch : Int → Int) {n k : Int} (k0 : 2 ≤ k) (k1 : k ≤ 5) : ∀ i, 0 ≤ i → i < n → 0 ≤ way2 ch n k i ∧ way2 ch n k i < k := by
  intro i i0 i1
  have d := dS_I ch (n := n) (by omega) k0 k1 (n - 1).toNat (by omega)
  obtain ⟨h1, h2, h3, h4⟩ := d.h i i0 i1
  have : (dS ch n k (n - 1).toNat).1 i / 5 = 0 := by
    refine Classical.byContradiction fun hc => ?_
    have l : sumZ (fun x => if x = 0 then 1 else 0) n < sumZ (dS ch n k (n - 1).toNat).2 n := by
      refine sumZ_lt (x := (dS ch n k (n - 1).toNat).1 i / 5) (fun x x0 x1 => ?_) (by omega) h3 (by rw [if_neg hc, h4]; omega)
      by_cases e : x = 0
      · rw [if_pos e, e, d.z]; omega
      · rw [if_neg e]
        rcases d.p x with z | z <;> omega
    rw [sumZ_one 1 (by omega) (by omega), d.s] at l
    omega
  unfold way2
  omega
/-- a row in order is the next state's row -/
theorem srt_row {ch H part : Int → Int} {n k : Int} {m : Nat} (d : DI n k m H part) (hn : n ≤ 16) (hc : ∀ i, 0 ≤ i → i < n → 1 ≤ ch i ∧ ch i ≤ 999) (k0 : 2 ≤ k) (k1 : k ≤ 5) {a b : Int} (ab : a ≠ b) {s : Int → Int} (hp : PermF s k) (hr : ∀ i, 0 ≤ i → i < k → 0 ≤ s i ∧ s i < k) (hs : Srt (fun i => mK ch n k H a b (s i)) k) : ∀ j, 0 ≤ j → j < k → bP (mp H k a b (s j)) n = bP (pr (jH ch n k H a b) (5 * a + j)) n ∧ sP ch (mp H k a b (s j)) n = sP ch (pr (jH ch n k H a b) (5 * a + j)) n := by
  intro j j0 j1
  have ob := ordZ_b (mK ch n k H a b) j0 j1
  have rj := hr j j0 j1
  have e := srt_at hp hs j j0 j1
  obtain ⟨e1, e2⟩ := dK_eq hn e
  have t1 : bP (pr (jH ch n k H a b) (5 * a + j)) n = bP (mp H k a b (ordZ (mK ch n k H a b) k j)) n := bP_cg (fun i i0 i1 => jH_pr d k0 k1 ab i0 i1 j0 j1)
  have t2 : sP ch (pr (jH ch n k H a b) (5 * a + j)) n = sP ch (mp H k a b (ordZ (mK ch n k H a b) k j)) n := sP_cg (fun i i0 i1 => ⟨jH_pr d k0 k1 ab i0 i1 j0 j1, rfl⟩)
  refine ⟨?_, by rw [t2]; exact e1⟩
  rw [t1]
  by_cases z : 0 < lwP (mp H k a b (s j)) n
  · obtain ⟨i, i0, i1, p1, p2⟩ := lwP_both hn e2 z
    rw [mp_one k1 ab rj.1 rj.2 ob.1 ob.2.1 p1 p2]
  · have f : ∀ p : Int → Bool, ¬ 0 < lwP p n → bP p n = 0 := fun p hz => (lwP_0 (fun i i0 i1 => by
      cases hb : p i
      · rfl
      · exact absurd (lwP_pos hn i0 i1 hb) hz)).1
    rw [f _ z, f _ (by rw [← e2]; exact z)]
