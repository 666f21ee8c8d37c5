/-! the constructor of the class -/
abbrev w7 (cT : Nat → ClassId) (Fi Fs : Nat → Option Nat) (r1 r2 : Nat → Nat) (h0 im ss t0 b0 p0 p1 p2 p3 p4 d0 d1 d2 d3 d4 rd x0 x1 x2 x3 x4 y0 y1 y2 y3 y4 kp wy wa wb wc df o1 o2 g0 lg e0 e1 e2 e3 s0 u0 s1 u1 s2 u2 s3 u3 : Nat) : va_W := (h0, .inr (7, [.ref t0, .ref p0, .ref d0, .ref rd, .ref im, .ref kp, .ref wy, .ref ss, .int 0, .int 0])) :: (ss, .inl (cT 4, 4, .inr (.inr (.inr (.inr Fs))))) :: (wSh cT s3 u3 ++ (wSh cT s2 u2 ++ (wSh cT s1 u1 ++ (wSh cT s0 u0 ++ (wWy cT wy wa wb wc df o1 o2 r1 r2 g0 lg e0 e1 e2 e3 ++ ((kp, zA (cT 2) 2) :: (im, .inl (cT 3, 2, .inr (.inr (.inr (.inr Fi))))) :: (wPk cT y0 y1 y2 y3 y4 ++ (wPk cT x0 x1 x2 x3 x4 ++ (wRd rd t0 d0 ++ (wPk cT d0 d1 d2 d3 d4 ++ (wPk cT p0 p1 p2 p3 p4 ++ (wTape cT t0 b0 ++ []))))))))))))
def pk0 : Int → Int := fun j => if j = 5 then 2 else if j = 7 then 10 else if j = 8 then 5 else 0
def rd0 : Int → Int := fun j => if j = 4 then 3 else 0
def df0 : Int → Int := fun j => if j = 6 then 2 else 0
def sh0 : Int → Int := fun j => if j = 1 then -1 else 0
/-- the numbers at first -/
def M0 : Mem := fun c => if c = 3 ∨ c = 8 ∨ c = 13 ∨ c = 18 then pk0 else if c = 23 then rd0 else if c = 30 then df0 else if c = 72 ∨ c = 74 ∨ c = 76 ∨ c = 78 then sh0 else fun _ => 0
theorem va_P.fr1 {D : va_G} {cl : List vw_C} {H : Heap} {o1 : Nat × va_E} {V w : va_W} (h : va_P D cl ((o1 :: V) ++ w) H) : va_P D cl (o1 :: (w ++ V)) H := va_P.swap (a := [o1]) (b := V) (c := w) h
theorem va_P.fr2 {D : va_G} {cl : List vw_C} {H : Heap} {o1 o2 : Nat × va_E} {V w : va_W} (h : va_P D cl ((o1 :: o2 :: V) ++ w) H) : va_P D cl (o1 :: o2 :: (w ++ V)) H := va_P.swap (a := [o1, o2]) (b := V) (c := w) h
theorem va_D.fr1 {A : Nat → Prop} {o1 : Nat × va_E} {V w : va_W} (h : va_D A ((o1 :: V) ++ w)) : va_D A (o1 :: (w ++ V)) := va_D.swap (a := [o1]) (b := V) (c := w) h
theorem va_D.fr2 {A : Nat → Prop} {o1 o2 : Nat × va_E} {V w : va_W} (h : va_D A ((o1 :: o2 :: V) ++ w)) : va_D A (o1 :: o2 :: (w ++ V)) := va_D.swap (a := [o1, o2]) (b := V) (c := w) h
def POS : List Nat := [0, 78, 79, 73, 74, 75, 76, 77, 68, 69, 70, 71, 72, 62, 63, 64, 65, 66, 57, 58, 59, 60, 61, 67, 56, 55, 10, 11, 12, 13, 14, 15, 17, 18, 19, 20, 21, 22, 23, 24, 25, 26, 27, 28, 29, 30, 31, 32, 16, 33, 34, 35, 36, 37, 38, 39, 40, 41, 42, 43, 44, 45, 46, 47, 48, 49, 50, 51, 52, 53, 54, 1, 8, 9, 6, 7, 4, 5, 2, 3]
/-- the world of the class, by the cells' numbers -/
def G7 (cT : Nat → ClassId) (h0 : Nat) (w : va_W) : Prop := w.length = 80 ∧ ∃ ad : Nat → Nat, ad 0 = h0 ∧ ∀ ad' : Nat → Nat, (∀ i, i < 80 → ad' i = ad i) → ∀ i, i < 80 → ∃ sh, shp i = some sh ∧ w[POS.getD i 0]? = some (ad' i, cellOf ad' cT (M0 i) sh)
theorem rowF_32 (ad : Nat → Nat) (j : Nat) : (if j < 16 then some (ad (32 + j)) else none) = (([32, 33, 34, 35, 36, 37, 38, 39, 40, 41, 42, 43, 44, 45, 46, 47] : List Nat)[j]?).map ad := by
  match j with
  | 0 => rfl
  | 1 => rfl
  | 2 => rfl
  | 3 => rfl
  | 4 => rfl
  | 5 => rfl
  | 6 => rfl
  | 7 => rfl
  | 8 => rfl
  | 9 => rfl
  | 10 => rfl
  | 11 => rfl
  | 12 => rfl
  | 13 => rfl
  | 14 => rfl
  | 15 => rfl
  | n + 16 =>
    rw [if_neg (by omega), List.getElem?_eq_none (by show 16 ≤ n + 16; omega)]
    rfl
theorem rowF_49 (ad : Nat → Nat) (j : Nat) : (if j < 16 then some (ad (49 + j)) else none) = (([49, 50, 51, 52, 53, 54, 55, 56, 57, 58, 59, 60, 61, 62, 63, 64] : List Nat)[j]?).map ad := by
  match j with
  | 0 => rfl
  | 1 => rfl
  | 2 => rfl
  | 3 => rfl
  | 4 => rfl
  | 5 => rfl
  | 6 => rfl
  | 7 => rfl
  | 8 => rfl
  | 9 => rfl
  | 10 => rfl
  | 11 => rfl
  | 12 => rfl
  | 13 => rfl
  | 14 => rfl
  | 15 => rfl
  | n + 16 =>
    rw [if_neg (by omega), List.getElem?_eq_none (by show 16 ≤ n + 16; omega)]
    rfl
abbrev wA (cT : Nat → ClassId) (ad : Nat → Nat) : va_W := w7 cT (fun j => (([13, 18] : List Nat)[j]?).map ad) (fun j => (([72, 74, 76, 78] : List Nat)[j]?).map ad) (fun k => ad (32 + k)) (fun k => ad (49 + k)) (ad 0) (ad 24) (ad 71) (ad 1) (ad 2) (ad 3) (ad 4) (ad 5) (ad 6) (ad 7) (ad 8) (ad 9) (ad 10) (ad 11) (ad 12) (ad 23) (ad 13) (ad 14) (ad 15) (ad 16) (ad 17) (ad 18) (ad 19) (ad 20) (ad 21) (ad 22) (ad 25) (ad 26) (ad 27) (ad 28) (ad 29) (ad 30) (ad 31) (ad 48) (ad 65) (ad 66) (ad 67) (ad 68) (ad 69) (ad 70) (ad 72) (ad 73) (ad 74) (ad 75) (ad 76) (ad 77) (ad 78) (ad 79)
set_option maxHeartbeats 4000000 in
set_option maxRecDepth 20000 in
theorem g7_0 (cT : Nat → ClassId) (ad : Nat → Nat) : ∀ i, 0 ≤ i → i < 8 → ∃ sh, shp i = some sh ∧ (wA cT ad)[POS.getD i 0]? = some (ad i, cellOf ad cT (M0 i) sh) := by
  intro i h0 h1
  rcases (show i = 0 ∨ i = 1 ∨ i = 2 ∨ i = 3 ∨ i = 4 ∨ i = 5 ∨ i = 6 ∨ i = 7 by omega) with rfl | rfl | rfl | rfl | rfl | rfl | rfl | rfl
  · exact ⟨_, rfl, rfl⟩
  · exact ⟨_, rfl, rfl⟩
  · exact ⟨_, rfl, rfl⟩
  · exact ⟨_, rfl, rfl⟩
  · exact ⟨_, rfl, rfl⟩
  · exact ⟨_, rfl, rfl⟩
  · exact ⟨_, rfl, rfl⟩
  · exact ⟨_, rfl, rfl⟩
set_option maxHeartbeats 4000000 in
set_option maxRecDepth 20000 in
theorem g7_8 (cT : Nat → ClassId) (ad : Nat → Nat) : ∀ i, 8 ≤ i → i < 16 → ∃ sh, shp i = some sh ∧ (wA cT ad)[POS.getD i 0]? = some (ad i, cellOf ad cT (M0 i) sh) := by
  intro i h0 h1
  rcases (show i = 8 ∨ i = 9 ∨ i = 10 ∨ i = 11 ∨ i = 12 ∨ i = 13 ∨ i = 14 ∨ i = 15 by omega) with rfl | rfl | rfl | rfl | rfl | rfl | rfl | rfl
  · exact ⟨_, rfl, rfl⟩
  · exact ⟨_, rfl, rfl⟩
  · exact ⟨_, rfl, rfl⟩
  · exact ⟨_, rfl, rfl⟩
  · exact ⟨_, rfl, rfl⟩
  · exact ⟨_, rfl, rfl⟩
  · exact ⟨_, rfl, rfl⟩
  · exact ⟨_, rfl, rfl⟩
set_option maxHeartbeats 4000000 in
set_option maxRecDepth 20000 in
theorem g7_16 (cT : Nat → ClassId) (ad : Nat → Nat) : ∀ i, 16 ≤ i → i < 24 → ∃ sh, shp i = some sh ∧ (wA cT ad)[POS.getD i 0]? = some (ad i, cellOf ad cT (M0 i) sh) := by
  intro i h0 h1
  rcases (show i = 16 ∨ i = 17 ∨ i = 18 ∨ i = 19 ∨ i = 20 ∨ i = 21 ∨ i = 22 ∨ i = 23 by omega) with rfl | rfl | rfl | rfl | rfl | rfl | rfl | rfl
  · exact ⟨_, rfl, rfl⟩
  · exact ⟨_, rfl, rfl⟩
  · exact ⟨_, rfl, rfl⟩
  · exact ⟨_, rfl, rfl⟩
  · exact ⟨_, rfl, rfl⟩
  · exact ⟨_, rfl, rfl⟩
  · exact ⟨_, rfl, rfl⟩
  · exact ⟨_, rfl, rfl⟩
set_option maxHeartbeats 4000000 in
set_option maxRecDepth 20000 in
theorem g7_24 (cT : Nat → ClassId) (ad : Nat → Nat) : ∀ i, 24 ≤ i → i < 32 → ∃ sh, shp i = some sh ∧ (wA cT ad)[POS.getD i 0]? = some (ad i, cellOf ad cT (M0 i) sh) := by
  intro i h0 h1
  rcases (show i = 24 ∨ i = 25 ∨ i = 26 ∨ i = 27 ∨ i = 28 ∨ i = 29 ∨ i = 30 ∨ i = 31 by omega) with rfl | rfl | rfl | rfl | rfl | rfl | rfl | rfl
  · exact ⟨_, rfl, rfl⟩
  · exact ⟨_, rfl, rfl⟩
  · exact ⟨_, rfl, rfl⟩
  · exact ⟨_, rfl, rfl⟩
  · exact ⟨_, rfl, rfl⟩
  · exact ⟨_, rfl, rfl⟩
  · exact ⟨_, rfl, rfl⟩
  · exact ⟨_, rfl, congrArg (fun f => some ((ad 31, Sum.inl (cT 5, 16, Sum.inr (Sum.inr (Sum.inr (Sum.inr f))))) : Nat × va_E)) (funext fun j => rowF_32 ad j)⟩
set_option maxHeartbeats 4000000 in
set_option maxRecDepth 20000 in
theorem g7_32 (cT : Nat → ClassId) (ad : Nat → Nat) : ∀ i, 32 ≤ i → i < 40 → ∃ sh, shp i = some sh ∧ (wA cT ad)[POS.getD i 0]? = some (ad i, cellOf ad cT (M0 i) sh) := by
  intro i h0 h1
  rcases (show i = 32 ∨ i = 33 ∨ i = 34 ∨ i = 35 ∨ i = 36 ∨ i = 37 ∨ i = 38 ∨ i = 39 by omega) with rfl | rfl | rfl | rfl | rfl | rfl | rfl | rfl
  · exact ⟨_, rfl, rfl⟩
  · exact ⟨_, rfl, rfl⟩
  · exact ⟨_, rfl, rfl⟩
  · exact ⟨_, rfl, rfl⟩
  · exact ⟨_, rfl, rfl⟩
  · exact ⟨_, rfl, rfl⟩
  · exact ⟨_, rfl, rfl⟩
  · exact ⟨_, rfl, rfl⟩
set_option maxHeartbeats 4000000 in
set_option maxRecDepth 20000 in
theorem g7_40 (cT : Nat → ClassId) (ad : Nat → Nat) : ∀ i, 40 ≤ i → i < 48 → ∃ sh, shp i = some sh ∧ (wA cT ad)[POS.getD i 0]? = some (ad i, cellOf ad cT (M0 i) sh) := by
  intro i h0 h1
  rcases (show i = 40 ∨ i = 41 ∨ i = 42 ∨ i = 43 ∨ i = 44 ∨ i = 45 ∨ i = 46 ∨ i = 47 by omega) with rfl | rfl | rfl | rfl | rfl | rfl | rfl | rfl
  · exact ⟨_, rfl, rfl⟩
  · exact ⟨_, rfl, rfl⟩
  · exact ⟨_, rfl, rfl⟩
  · exact ⟨_, rfl, rfl⟩
  · exact ⟨_, rfl, rfl⟩
  · exact ⟨_, rfl, rfl⟩
  · exact ⟨_, rfl, rfl⟩
  · exact ⟨_, rfl, rfl⟩
set_option maxHeartbeats 4000000 in
set_option maxRecDepth 20000 in
theorem g7_48 (cT : Nat → ClassId) (ad : Nat → Nat) : ∀ i, 48 ≤ i → i < 56 → ∃ sh, shp i = some sh ∧ (wA cT ad)[POS.getD i 0]? = some (ad i, cellOf ad cT (M0 i) sh) := by
  intro i h0 h1
  rcases (show i = 48 ∨ i = 49 ∨ i = 50 ∨ i = 51 ∨ i = 52 ∨ i = 53 ∨ i = 54 ∨ i = 55 by omega) with rfl | rfl | rfl | rfl | rfl | rfl | rfl | rfl
  · exact ⟨_, rfl, congrArg (fun f => some ((ad 48, Sum.inl (cT 5, 16, Sum.inr (Sum.inr (Sum.inr (Sum.inr f))))) : Nat × va_E)) (funext fun j => rowF_49 ad j)⟩
  · exact ⟨_, rfl, rfl⟩
  · exact ⟨_, rfl, rfl⟩
  · exact ⟨_, rfl, rfl⟩
  · exact ⟨_, rfl, rfl⟩
  · exact ⟨_, rfl, rfl⟩
  · exact ⟨_, rfl, rfl⟩
  · exact ⟨_, rfl, rfl⟩
set_option maxHeartbeats 4000000 in
set_option maxRecDepth 20000 in
theorem g7_56 (cT : Nat → ClassId) (ad : Nat → Nat) : ∀ i, 56 ≤ i → i < 64 → ∃ sh, shp i = some sh ∧ (wA cT ad)[POS.getD i 0]? = some (ad i, cellOf ad cT (M0 i) sh) := by
  intro i h0 h1
  rcases (show i = 56 ∨ i = 57 ∨ i = 58 ∨ i = 59 ∨ i = 60 ∨ i = 61 ∨ i = 62 ∨ i = 63 by omega) with rfl | rfl | rfl | rfl | rfl | rfl | rfl | rfl
  · exact ⟨_, rfl, rfl⟩
  · exact ⟨_, rfl, rfl⟩
  · exact ⟨_, rfl, rfl⟩
  · exact ⟨_, rfl, rfl⟩
  · exact ⟨_, rfl, rfl⟩
  · exact ⟨_, rfl, rfl⟩
  · exact ⟨_, rfl, rfl⟩
  · exact ⟨_, rfl, rfl⟩
set_option maxHeartbeats 4000000 in
set_option maxRecDepth 20000 in
theorem g7_64 (cT : Nat → ClassId) (ad : Nat → Nat) : ∀ i, 64 ≤ i → i < 72 → ∃ sh, shp i = some sh ∧ (wA cT ad)[POS.getD i 0]? = some (ad i, cellOf ad cT (M0 i) sh) := by
  intro i h0 h1
  rcases (show i = 64 ∨ i = 65 ∨ i = 66 ∨ i = 67 ∨ i = 68 ∨ i = 69 ∨ i = 70 ∨ i = 71 by omega) with rfl | rfl | rfl | rfl | rfl | rfl | rfl | rfl
  · exact ⟨_, rfl, rfl⟩
  · exact ⟨_, rfl, rfl⟩
  · exact ⟨_, rfl, rfl⟩
  · exact ⟨_, rfl, rfl⟩
  · exact ⟨_, rfl, rfl⟩
  · exact ⟨_, rfl, rfl⟩
  · exact ⟨_, rfl, rfl⟩
  · exact ⟨_, rfl, rfl⟩
set_option maxHeartbeats 4000000 in
set_option maxRecDepth 20000 in
theorem g7_72 (cT : Nat → ClassId) (ad : Nat → Nat) : ∀ i, 72 ≤ i → i < 80 → ∃ sh, shp i = some sh ∧ (wA cT ad)[POS.getD i 0]? = some (ad i, cellOf ad cT (M0 i) sh) := by
  intro i h0 h1
  rcases (show i = 72 ∨ i = 73 ∨ i = 74 ∨ i = 75 ∨ i = 76 ∨ i = 77 ∨ i = 78 ∨ i = 79 by omega) with rfl | rfl | rfl | rfl | rfl | rfl | rfl | rfl
  · exact ⟨_, rfl, rfl⟩
  · exact ⟨_, rfl, rfl⟩
  · exact ⟨_, rfl, rfl⟩
  · exact ⟨_, rfl, rfl⟩
  · exact ⟨_, rfl, rfl⟩
  · exact ⟨_, rfl, rfl⟩
  · exact ⟨_, rfl, rfl⟩
  · exact ⟨_, rfl, rfl⟩
theorem wWy_cg (cT : Nat → ClassId) (h a b c d o1 o2 : Nat) (r1 r2 s1 s2 : Nat → Nat) (g lg e0 e1 e2 e3 : Nat) (q1 : ∀ k, k < 16 → r1 k = s1 k) (q2 : ∀ k, k < 16 → r2 k = s2 k) : wWy cT h a b c d o1 o2 r1 r2 g lg e0 e1 e2 e3 = wWy cT h a b c d o1 o2 s1 s2 g lg e0 e1 e2 e3 := by
  have f1 : oE cT r1 = oE cT s1 := by
    unfold oE
    congr 8
    funext i
    by_cases hi : i < 16
    · rw [if_pos hi, if_pos hi, q1 i hi]
    · rw [if_neg hi, if_neg hi]
  have f2 : oE cT r2 = oE cT s2 := by
    unfold oE
    congr 8
    funext i
    by_cases hi : i < 16
    · rw [if_pos hi, if_pos hi, q2 i hi]
    · rw [if_neg hi, if_neg hi]
  have f3 : (List.range 16).map r1 = (List.range 16).map s1 := List.map_congr_left (fun k hk => q1 k (List.mem_range.mp hk))
  have f4 : (List.range 16).map r2 = (List.range 16).map s2 := List.map_congr_left (fun k hk => q2 k (List.mem_range.mp hk))
  unfold wWy wDf
  rw [f1, f2, f3, f4]
theorem upX (x0 y0 : Nat) : (va_up (va_up (fun _ => none) (0 : Int32).toNatClampNeg (some x0)) (1 : Int32).toNatClampNeg (some y0)) = fun j => ([x0, y0] : List Nat)[j]? := funext fun j => by match j with | 0 => rfl | 1 => rfl | n + 2 => rfl
theorem upS (s0 s1 s2 s3 : Nat) : (va_up (va_up (va_up (va_up (fun _ => none) (0 : Int32).toNatClampNeg (some s0)) (1 : Int32).toNatClampNeg (some s1)) (2 : Int32).toNatClampNeg (some s2)) (3 : Int32).toNatClampNeg (some s3)) = fun j => ([s0, s1, s2, s3] : List Nat)[j]? := funext fun j => by match j with | 0 => rfl | 1 => rfl | 2 => rfl | 3 => rfl | n + 4 => rfl
set_option maxHeartbeats 4000000 in
set_option maxRecDepth 20000 in
theorem g7 (cT : Nat → ClassId) (Fi Fs : Nat → Option Nat) (r1 r2 : Nat → Nat) (h0 im ss t0 b0 p0 p1 p2 p3 p4 d0 d1 d2 d3 d4 rd x0 x1 x2 x3 x4 y0 y1 y2 y3 y4 kp wy wa wb wc df o1 o2 g0 lg e0 e1 e2 e3 s0 u0 s1 u1 s2 u2 s3 u3 : Nat) (hi : Fi = fun j => ([x0, y0] : List Nat)[j]?) (hs : Fs = fun j => ([s0, s1, s2, s3] : List Nat)[j]?) : G7 cT h0 (w7 cT Fi Fs r1 r2 h0 im ss t0 b0 p0 p1 p2 p3 p4 d0 d1 d2 d3 d4 rd x0 x1 x2 x3 x4 y0 y1 y2 y3 y4 kp wy wa wb wc df o1 o2 g0 lg e0 e1 e2 e3 s0 u0 s1 u1 s2 u2 s3 u3) := by
  refine ⟨rfl, fun i => ([h0, t0, b0, p0, p1, p2, p3, p4, d0, d1, d2, d3, d4, x0, x1, x2, x3, x4, y0, y1, y2, y3, y4, rd, im, kp, wy, wa, wb, wc, df, o1, r1 0, r1 1, r1 2, r1 3, r1 4, r1 5, r1 6, r1 7, r1 8, r1 9, r1 10, r1 11, r1 12, r1 13, r1 14, r1 15, o2, r2 0, r2 1, r2 2, r2 3, r2 4, r2 5, r2 6, r2 7, r2 8, r2 9, r2 10, r2 11, r2 12, r2 13, r2 14, r2 15, g0, lg, e0, e1, e2, e3, ss, s0, u0, s1, u1, s2, u2, s3, u3] : List Nat).getD i 0, rfl, fun ad' hq => ?_⟩
  have e : w7 cT Fi Fs r1 r2 h0 im ss t0 b0 p0 p1 p2 p3 p4 d0 d1 d2 d3 d4 rd x0 x1 x2 x3 x4 y0 y1 y2 y3 y4 kp wy wa wb wc df o1 o2 g0 lg e0 e1 e2 e3 s0 u0 s1 u1 s2 u2 s3 u3 = wA cT ad' := by
    have qr1 : ∀ k, k < 16 → r1 k = ad' (32 + k) := by
      intro k hk
      rcases (show k = 0 ∨ k = 1 ∨ k = 2 ∨ k = 3 ∨ k = 4 ∨ k = 5 ∨ k = 6 ∨ k = 7 ∨ k = 8 ∨ k = 9 ∨ k = 10 ∨ k = 11 ∨ k = 12 ∨ k = 13 ∨ k = 14 ∨ k = 15 by omega) with rfl | rfl | rfl | rfl | rfl | rfl | rfl | rfl | rfl | rfl | rfl | rfl | rfl | rfl | rfl | rfl
      · exact (hq 32 (by decide)).symm
      · exact (hq 33 (by decide)).symm
      · exact (hq 34 (by decide)).symm
      · exact (hq 35 (by decide)).symm
      · exact (hq 36 (by decide)).symm
      · exact (hq 37 (by decide)).symm
      · exact (hq 38 (by decide)).symm
      · exact (hq 39 (by decide)).symm
      · exact (hq 40 (by decide)).symm
      · exact (hq 41 (by decide)).symm
      · exact (hq 42 (by decide)).symm
      · exact (hq 43 (by decide)).symm
      · exact (hq 44 (by decide)).symm
      · exact (hq 45 (by decide)).symm
      · exact (hq 46 (by decide)).symm
      · exact (hq 47 (by decide)).symm
    have qr2 : ∀ k, k < 16 → r2 k = ad' (49 + k) := by
      intro k hk
      rcases (show k = 0 ∨ k = 1 ∨ k = 2 ∨ k = 3 ∨ k = 4 ∨ k = 5 ∨ k = 6 ∨ k = 7 ∨ k = 8 ∨ k = 9 ∨ k = 10 ∨ k = 11 ∨ k = 12 ∨ k = 13 ∨ k = 14 ∨ k = 15 by omega) with rfl | rfl | rfl | rfl | rfl | rfl | rfl | rfl | rfl | rfl | rfl | rfl | rfl | rfl | rfl | rfl
      · exact (hq 49 (by decide)).symm
      · exact (hq 50 (by decide)).symm
      · exact (hq 51 (by decide)).symm
      · exact (hq 52 (by decide)).symm
      · exact (hq 53 (by decide)).symm
      · exact (hq 54 (by decide)).symm
      · exact (hq 55 (by decide)).symm
      · exact (hq 56 (by decide)).symm
      · exact (hq 57 (by decide)).symm
      · exact (hq 58 (by decide)).symm
      · exact (hq 59 (by decide)).symm
      · exact (hq 60 (by decide)).symm
      · exact (hq 61 (by decide)).symm
      · exact (hq 62 (by decide)).symm
      · exact (hq 63 (by decide)).symm
      · exact (hq 64 (by decide)).symm
    have k0 : h0 = ad' 0 := (hq 0 (by decide)).symm
    have k1 : t0 = ad' 1 := (hq 1 (by decide)).symm
    have k2 : b0 = ad' 2 := (hq 2 (by decide)).symm
    have k3 : p0 = ad' 3 := (hq 3 (by decide)).symm
    have k4 : p1 = ad' 4 := (hq 4 (by decide)).symm
    have k5 : p2 = ad' 5 := (hq 5 (by decide)).symm
    have k6 : p3 = ad' 6 := (hq 6 (by decide)).symm
    have k7 : p4 = ad' 7 := (hq 7 (by decide)).symm
    have k8 : d0 = ad' 8 := (hq 8 (by decide)).symm
    have k9 : d1 = ad' 9 := (hq 9 (by decide)).symm
    have k10 : d2 = ad' 10 := (hq 10 (by decide)).symm
    have k11 : d3 = ad' 11 := (hq 11 (by decide)).symm
    have k12 : d4 = ad' 12 := (hq 12 (by decide)).symm
    have k13 : x0 = ad' 13 := (hq 13 (by decide)).symm
    have k14 : x1 = ad' 14 := (hq 14 (by decide)).symm
    have k15 : x2 = ad' 15 := (hq 15 (by decide)).symm
    have k16 : x3 = ad' 16 := (hq 16 (by decide)).symm
    have k17 : x4 = ad' 17 := (hq 17 (by decide)).symm
    have k18 : y0 = ad' 18 := (hq 18 (by decide)).symm
    have k19 : y1 = ad' 19 := (hq 19 (by decide)).symm
    have k20 : y2 = ad' 20 := (hq 20 (by decide)).symm
    have k21 : y3 = ad' 21 := (hq 21 (by decide)).symm
    have k22 : y4 = ad' 22 := (hq 22 (by decide)).symm
    have k23 : rd = ad' 23 := (hq 23 (by decide)).symm
    have k24 : im = ad' 24 := (hq 24 (by decide)).symm
    have k25 : kp = ad' 25 := (hq 25 (by decide)).symm
    have k26 : wy = ad' 26 := (hq 26 (by decide)).symm
    have k27 : wa = ad' 27 := (hq 27 (by decide)).symm
    have k28 : wb = ad' 28 := (hq 28 (by decide)).symm
    have k29 : wc = ad' 29 := (hq 29 (by decide)).symm
    have k30 : df = ad' 30 := (hq 30 (by decide)).symm
    have k31 : o1 = ad' 31 := (hq 31 (by decide)).symm
    have k48 : o2 = ad' 48 := (hq 48 (by decide)).symm
    have k65 : g0 = ad' 65 := (hq 65 (by decide)).symm
    have k66 : lg = ad' 66 := (hq 66 (by decide)).symm
    have k67 : e0 = ad' 67 := (hq 67 (by decide)).symm
    have k68 : e1 = ad' 68 := (hq 68 (by decide)).symm
    have k69 : e2 = ad' 69 := (hq 69 (by decide)).symm
    have k70 : e3 = ad' 70 := (hq 70 (by decide)).symm
    have k71 : ss = ad' 71 := (hq 71 (by decide)).symm
    have k72 : s0 = ad' 72 := (hq 72 (by decide)).symm
    have k73 : u0 = ad' 73 := (hq 73 (by decide)).symm
    have k74 : s1 = ad' 74 := (hq 74 (by decide)).symm
    have k75 : u1 = ad' 75 := (hq 75 (by decide)).symm
    have k76 : s2 = ad' 76 := (hq 76 (by decide)).symm
    have k77 : u2 = ad' 77 := (hq 77 (by decide)).symm
    have k78 : s3 = ad' 78 := (hq 78 (by decide)).symm
    have k79 : u3 = ad' 79 := (hq 79 (by decide)).symm
    clear hq
    subst hi hs
    unfold w7
    rw [wWy_cg cT _ _ _ _ _ _ _ r1 r2 (fun k => ad' (32 + k)) (fun k => ad' (49 + k)) _ _ _ _ _ _ qr1 qr2]
    clear qr1 qr2
    subst k0 k1 k2 k3 k4 k5 k6 k7 k8 k9 k10 k11 k12 k13 k14 k15 k16 k17 k18 k19 k20 k21 k22 k23 k24 k25 k26 k27 k28 k29 k30 k31 k48 k65 k66 k67 k68 k69 k70 k71 k72 k73 k74 k75 k76 k77 k78 k79
    rw [show (fun j => ([ad' 13, ad' 18] : List Nat)[j]?) = fun j => (([13, 18] : List Nat)[j]?).map ad' from funext fun j => by rw [← List.getElem?_map]; rfl, show (fun j => ([ad' 72, ad' 74, ad' 76, ad' 78] : List Nat)[j]?) = fun j => (([72, 74, 76, 78] : List Nat)[j]?).map ad' from funext fun j => by rw [← List.getElem?_map]; rfl]
  rw [e]
  intro i hi
  by_cases h8 : i < 8
  · exact g7_0 cT ad' i (by omega) h8
  by_cases h16 : i < 16
  · exact g7_8 cT ad' i (by omega) h16
  by_cases h24 : i < 24
  · exact g7_16 cT ad' i (by omega) h24
  by_cases h32 : i < 32
  · exact g7_24 cT ad' i (by omega) h32
  by_cases h40 : i < 40
  · exact g7_32 cT ad' i (by omega) h40
  by_cases h48 : i < 48
  · exact g7_40 cT ad' i (by omega) h48
  by_cases h56 : i < 56
  · exact g7_48 cT ad' i (by omega) h56
  by_cases h64 : i < 64
  · exact g7_56 cT ad' i (by omega) h64
  by_cases h72 : i < 72
  · exact g7_64 cT ad' i (by omega) h72
  exact g7_72 cT ad' i (by omega) hi
theorem dc_cp_0 : decode cX7_init 0 = .ok (.aload_n 0, 1) := by decide +kernel
theorem kc_cp_ol : Cond.methodLink RX7 1 objectInit ∈ GW := gw_at 137 (by decide +kernel) (by decide +kernel)
theorem kc_cp_oi : Cond.instanceMethod objectInit ∈ GW := gw_at 138 (by decide +kernel) (by decide +kernel)
set_option maxRecDepth 20000 in
theorem kc_cp_oc : Cond.code objectInit ⟨#[0xb1]⟩ 1 none ∈ GW := gw_at 139 rfl rfl
theorem dc_cp_1 : decode cX7_init 1 = .ok (.invokespecial 1, 3) := by decide +kernel
theorem dc_cp_4 : decode cX7_init 4 = .ok (.aload_n 0, 1) := by decide +kernel
theorem kc_cp_cl7 : Cond.classLink RX7 7 RX4 ∈ GW := gw_at 140 (by decide +kernel) (by decide +kernel)
theorem kc_cp_itX4 : Cond.instantiable RX4 2 ∈ GW := gw_at 141 (by decide +kernel) (by decide +kernel)
theorem kc_cp_iiX4 : Cond.initialized RX4 ∈ GW := gw_at 116 (by decide +kernel) (by decide +kernel)
theorem dc_cp_5 : decode cX7_init 5 = .ok (.new 7, 3) := by decide +kernel
theorem dc_cp_8 : decode cX7_init 8 = .ok (.dup, 1) := by decide +kernel
set_option maxRecDepth 20000 in
theorem kc_cp_kcX4 : Cond.code yX4_init cX4_init 1 none ∈ GW := gw_at 144 rfl rfl
theorem kc_cp_imX4 : Cond.instanceMethod yX4_init ∈ GW := gw_at 143 (by decide +kernel) (by decide +kernel)
theorem kc_cp_ml9 : Cond.methodLinkNest RX7 9 yX4_init "CellPacks" ∈ NWs := nw_at 142 (by decide +kernel) rfl
theorem dc_cp_9 : decode cX7_init 9 = .ok (.invokespecial 9, 3) := by decide +kernel
theorem kc_cp_f10 : Cond.fieldLink RX7 10 (TX7 0).1 (TX7 0).2.1 (TX7 0).2.2.1 ∈ GW := gw_at 355 (by decide +kernel) (by decide +kernel)
theorem dc_cp_12 : decode cX7_init 12 = .ok (.putfield 10, 3) := by decide +kernel
theorem dc_cp_15 : decode cX7_init 15 = .ok (.aload_n 0, 1) := by decide +kernel
theorem kc_cp_cl16 : Cond.classLink RX7 16 RX2 ∈ GW := gw_at 157 (by decide +kernel) (by decide +kernel)
theorem kc_cp_itX2 : Cond.instantiable RX2 9 ∈ GW := gw_at 158 (by decide +kernel) (by decide +kernel)
theorem kc_cp_iiX2 : Cond.initialized RX2 ∈ GW := gw_at 117 (by decide +kernel) (by decide +kernel)
theorem dc_cp_16 : decode cX7_init 16 = .ok (.new 16, 3) := by decide +kernel
theorem dc_cp_19 : decode cX7_init 19 = .ok (.dup, 1) := by decide +kernel
set_option maxRecDepth 20000 in
theorem kc_cp_kcX2 : Cond.code yX2_init cX2_init 1 none ∈ GW := gw_at 161 rfl rfl
theorem kc_cp_imX2 : Cond.instanceMethod yX2_init ∈ GW := gw_at 160 (by decide +kernel) (by decide +kernel)
theorem kc_cp_ml18 : Cond.methodLinkNest RX7 18 yX2_init "CellPacks" ∈ NWs := nw_at 159 (by decide +kernel) rfl
theorem dc_cp_20 : decode cX7_init 20 = .ok (.invokespecial 18, 3) := by decide +kernel
theorem kc_cp_f19 : Cond.fieldLink RX7 19 (TX7 1).1 (TX7 1).2.1 (TX7 1).2.2.1 ∈ GW := gw_at 356 (by decide +kernel) (by decide +kernel)
theorem dc_cp_23 : decode cX7_init 23 = .ok (.putfield 19, 3) := by decide +kernel
theorem dc_cp_26 : decode cX7_init 26 = .ok (.aload_n 0, 1) := by decide +kernel
theorem dc_cp_27 : decode cX7_init 27 = .ok (.new 16, 3) := by decide +kernel
theorem dc_cp_30 : decode cX7_init 30 = .ok (.dup, 1) := by decide +kernel
theorem dc_cp_31 : decode cX7_init 31 = .ok (.invokespecial 18, 3) := by decide +kernel
theorem kc_cp_f23 : Cond.fieldLink RX7 23 (TX7 2).1 (TX7 2).2.1 (TX7 2).2.2.1 ∈ GW := gw_at 357 (by decide +kernel) (by decide +kernel)
theorem dc_cp_34 : decode cX7_init 34 = .ok (.putfield 23, 3) := by decide +kernel
theorem dc_cp_37 : decode cX7_init 37 = .ok (.aload_n 0, 1) := by decide +kernel
theorem kc_cp_cl26 : Cond.classLink RX7 26 RX5 ∈ GW := gw_at 219 (by decide +kernel) (by decide +kernel)
theorem kc_cp_itX5 : Cond.instantiable RX5 9 ∈ GW := gw_at 220 (by decide +kernel) (by decide +kernel)
theorem kc_cp_iiX5 : Cond.initialized RX5 ∈ GW := gw_at 118 (by decide +kernel) (by decide +kernel)
theorem dc_cp_38 : decode cX7_init 38 = .ok (.new 26, 3) := by decide +kernel
theorem dc_cp_41 : decode cX7_init 41 = .ok (.dup, 1) := by decide +kernel
theorem dc_cp_42 : decode cX7_init 42 = .ok (.aload_n 0, 1) := by decide +kernel
theorem dc_cp_43 : decode cX7_init 43 = .ok (.getfield 10, 3) := by decide +kernel
theorem dc_cp_46 : decode cX7_init 46 = .ok (.aload_n 0, 1) := by decide +kernel
theorem dc_cp_47 : decode cX7_init 47 = .ok (.getfield 23, 3) := by decide +kernel
set_option maxRecDepth 20000 in
theorem kc_cp_kcX5 : Cond.code yX5_init cX5_init 3 none ∈ GW := gw_at 223 rfl rfl
theorem kc_cp_imX5 : Cond.instanceMethod yX5_init ∈ GW := gw_at 222 (by decide +kernel) (by decide +kernel)
theorem kc_cp_ml28 : Cond.methodLinkNest RX7 28 yX5_init "CellPacks" ∈ NWs := nw_at 221 (by decide +kernel) rfl
theorem dc_cp_50 : decode cX7_init 50 = .ok (.invokespecial 28, 3) := by decide +kernel
theorem kc_cp_f31 : Cond.fieldLink RX7 31 (TX7 3).1 (TX7 3).2.1 (TX7 3).2.2.1 ∈ GW := gw_at 358 (by decide +kernel) (by decide +kernel)
theorem dc_cp_53 : decode cX7_init 53 = .ok (.putfield 31, 3) := by decide +kernel
theorem dc_cp_56 : decode cX7_init 56 = .ok (.aload_n 0, 1) := by decide +kernel
theorem dc_cp_57 : decode cX7_init 57 = .ok (.iconst 2, 1) := by decide +kernel
theorem dc_cp_58 : decode cX7_init 58 = .ok (.anewarray 16, 3) := by decide +kernel
theorem kc_cp_f35 : Cond.fieldLink RX7 35 (TX7 4).1 (TX7 4).2.1 (TX7 4).2.2.1 ∈ GW := gw_at 359 (by decide +kernel) (by decide +kernel)
theorem dc_cp_61 : decode cX7_init 61 = .ok (.putfield 35, 3) := by decide +kernel
theorem dc_cp_64 : decode cX7_init 64 = .ok (.iconst 0, 1) := by decide +kernel
theorem dc_cp_65 : decode cX7_init 65 = .ok (.istore_n 1, 1) := by decide +kernel
theorem dc_cp_66 : decode cX7_init 66 = .ok (.iload_n 1, 1) := by decide +kernel
theorem dc_cp_67 : decode cX7_init 67 = .ok (.iconst 2, 1) := by decide +kernel
theorem dc_cp_68 : decode cX7_init 68 = .ok (.if_icmp .ge 22, 3) := by decide +kernel
theorem dc_cp_71 : decode cX7_init 71 = .ok (.aload_n 0, 1) := by decide +kernel
theorem dc_cp_72 : decode cX7_init 72 = .ok (.getfield 35, 3) := by decide +kernel
theorem dc_cp_75 : decode cX7_init 75 = .ok (.iload_n 1, 1) := by decide +kernel
theorem dc_cp_76 : decode cX7_init 76 = .ok (.new 16, 3) := by decide +kernel
theorem dc_cp_79 : decode cX7_init 79 = .ok (.dup, 1) := by decide +kernel
theorem dc_cp_80 : decode cX7_init 80 = .ok (.invokespecial 18, 3) := by decide +kernel
theorem dc_cp_83 : decode cX7_init 83 = .ok (.aastore, 1) := by decide +kernel
theorem dc_cp_84 : decode cX7_init 84 = .ok (.iinc 1 1, 3) := by decide +kernel
theorem dc_cp_87 : decode cX7_init 87 = .ok (.goto (-21), 3) := by decide +kernel
theorem dc_cp_90 : decode cX7_init 90 = .ok (.aload_n 0, 1) := by decide +kernel
theorem dc_cp_91 : decode cX7_init 91 = .ok (.iconst 2, 1) := by decide +kernel
theorem kc_cp_aboolean : Cond.arrayClass .boolean ∈ GW := gw_at 294 (by decide +kernel) (by decide +kernel)
theorem dc_cp_92 : decode cX7_init 92 = .ok (.newarray .boolean, 2) := by decide +kernel
theorem kc_cp_f39 : Cond.fieldLink RX7 39 (TX7 5).1 (TX7 5).2.1 (TX7 5).2.2.1 ∈ GW := gw_at 360 (by decide +kernel) (by decide +kernel)
theorem dc_cp_94 : decode cX7_init 94 = .ok (.putfield 39, 3) := by decide +kernel
theorem dc_cp_97 : decode cX7_init 97 = .ok (.aload_n 0, 1) := by decide +kernel
theorem kc_cp_cl43 : Cond.classLink RX7 43 RX6 ∈ GW := gw_at 256 (by decide +kernel) (by decide +kernel)
theorem kc_cp_itX6 : Cond.instantiable RX6 5 ∈ GW := gw_at 257 (by decide +kernel) (by decide +kernel)
theorem kc_cp_iiX6 : Cond.initialized RX6 ∈ GW := gw_at 119 (by decide +kernel) (by decide +kernel)
theorem dc_cp_98 : decode cX7_init 98 = .ok (.new 43, 3) := by decide +kernel
theorem dc_cp_101 : decode cX7_init 101 = .ok (.dup, 1) := by decide +kernel
set_option maxRecDepth 20000 in
theorem kc_cp_kcX6 : Cond.code yX6_init cX6_init 1 none ∈ GW := gw_at 260 rfl rfl
theorem kc_cp_imX6 : Cond.instanceMethod yX6_init ∈ GW := gw_at 259 (by decide +kernel) (by decide +kernel)
theorem kc_cp_ml45 : Cond.methodLinkNest RX7 45 yX6_init "CellPacks" ∈ NWs := nw_at 258 (by decide +kernel) rfl
theorem dc_cp_102 : decode cX7_init 102 = .ok (.invokespecial 45, 3) := by decide +kernel
theorem kc_cp_f46 : Cond.fieldLink RX7 46 (TX7 6).1 (TX7 6).2.1 (TX7 6).2.2.1 ∈ GW := gw_at 361 (by decide +kernel) (by decide +kernel)
theorem dc_cp_105 : decode cX7_init 105 = .ok (.putfield 46, 3) := by decide +kernel
theorem dc_cp_108 : decode cX7_init 108 = .ok (.aload_n 0, 1) := by decide +kernel
theorem dc_cp_109 : decode cX7_init 109 = .ok (.iconst 4, 1) := by decide +kernel
theorem kc_cp_cl50 : Cond.classLink RX7 50 RX3 ∈ GW := gw_at 335 (by decide +kernel) (by decide +kernel)
theorem dc_cp_110 : decode cX7_init 110 = .ok (.anewarray 50, 3) := by decide +kernel
theorem kc_cp_f52 : Cond.fieldLink RX7 52 (TX7 7).1 (TX7 7).2.1 (TX7 7).2.2.1 ∈ GW := gw_at 362 (by decide +kernel) (by decide +kernel)
theorem dc_cp_113 : decode cX7_init 113 = .ok (.putfield 52, 3) := by decide +kernel
theorem dc_cp_116 : decode cX7_init 116 = .ok (.iconst 0, 1) := by decide +kernel
theorem dc_cp_117 : decode cX7_init 117 = .ok (.istore_n 1, 1) := by decide +kernel
theorem dc_cp_118 : decode cX7_init 118 = .ok (.iload_n 1, 1) := by decide +kernel
theorem dc_cp_119 : decode cX7_init 119 = .ok (.iconst 4, 1) := by decide +kernel
theorem dc_cp_120 : decode cX7_init 120 = .ok (.if_icmp .ge 22, 3) := by decide +kernel
theorem dc_cp_123 : decode cX7_init 123 = .ok (.aload_n 0, 1) := by decide +kernel
theorem dc_cp_124 : decode cX7_init 124 = .ok (.getfield 52, 3) := by decide +kernel
theorem dc_cp_127 : decode cX7_init 127 = .ok (.iload_n 1, 1) := by decide +kernel
theorem kc_cp_itX3 : Cond.instantiable RX3 3 ∈ GW := gw_at 337 (by decide +kernel) (by decide +kernel)
theorem kc_cp_iiX3 : Cond.initialized RX3 ∈ GW := gw_at 122 (by decide +kernel) (by decide +kernel)
theorem dc_cp_128 : decode cX7_init 128 = .ok (.new 50, 3) := by decide +kernel
theorem dc_cp_131 : decode cX7_init 131 = .ok (.dup, 1) := by decide +kernel
set_option maxRecDepth 20000 in
theorem kc_cp_kcX3 : Cond.code yX3_init cX3_init 1 none ∈ GW := gw_at 340 rfl rfl
theorem kc_cp_imX3 : Cond.instanceMethod yX3_init ∈ GW := gw_at 339 (by decide +kernel) (by decide +kernel)
theorem kc_cp_ml56 : Cond.methodLinkNest RX7 56 yX3_init "CellPacks" ∈ NWs := nw_at 338 (by decide +kernel) rfl
theorem dc_cp_132 : decode cX7_init 132 = .ok (.invokespecial 56, 3) := by decide +kernel
theorem dc_cp_135 : decode cX7_init 135 = .ok (.aastore, 1) := by decide +kernel
theorem dc_cp_136 : decode cX7_init 136 = .ok (.iinc 1 1, 3) := by decide +kernel
theorem dc_cp_139 : decode cX7_init 139 = .ok (.goto (-21), 3) := by decide +kernel
theorem dc_cp_142 : decode cX7_init 142 = .ok (.aload_n 0, 1) := by decide +kernel
theorem dc_cp_143 : decode cX7_init 143 = .ok (.iconst 0, 1) := by decide +kernel
theorem kc_cp_f57 : Cond.fieldLink RX7 57 (TX7 8).1 (TX7 8).2.1 (TX7 8).2.2.1 ∈ GW := gw_at 363 (by decide +kernel) (by decide +kernel)
theorem dc_cp_144 : decode cX7_init 144 = .ok (.putfield 57, 3) := by decide +kernel
theorem dc_cp_147 : decode cX7_init 147 = .ok (.aload_n 0, 1) := by decide +kernel
theorem dc_cp_148 : decode cX7_init 148 = .ok (.iconst 0, 1) := by decide +kernel
theorem kc_cp_f61 : Cond.fieldLink RX7 61 (TX7 9).1 (TX7 9).2.1 (TX7 9).2.2.1 ∈ GW := gw_at 364 (by decide +kernel) (by decide +kernel)
theorem dc_cp_149 : decode cX7_init 149 = .ok (.putfield 61, 3) := by decide +kernel
theorem dc_cp_152 : decode cX7_init 152 = .ok (.return_, 1) := by decide +kernel
section CTORS
variable {cT dC : Nat → ClassId} {dI : Nat → Nat → Nat}
section NWR
variable {p : Program} {l : Launch} {e : Env} {R : Room} {s : State} {m : MethodId} {args : Array Value} {below : List Frame} {meth : Method} {c : Code} {H H0 : Heap} {locs : List Loc} {cells slots : Nat} {Q : State → Prop} {A : Nat → Prop} {cc : ByteArray} {pc : Nat} {ls : Array Slot} {rest : List Value} {ws : va_W}
theorem nw_ref {t : Nat} {own C : String} {index : Nat} (hexec : p.tables.exec = Jvm.exec) (hb : c.code = cc) (hown : s.vm.findClass own = some m.cls) (hclink : (Cond.classLink own index C).before args s = true) (hover : va_AO C s) (hK : va_K (dC, dI) vwCl (TYS cT) s) (hP : va_P (dC, dI) vwCl ws H) (hD : va_D A ws) (hS : va_S A H0 H locs) (hA : ∀ q, H0.size ≤ q → A q) (ht : (TYS cT)[t]? = some (cT t, .object C))
    {n : Int32} {N' : Nat} (hn : ¬ n < 0) (hN : n.toNatClampNeg = N') (hbytes : N' * 4 ≤ 536870912) (hcells : cells + 1 ≤ R.cells) (hslots : slots + N' ≤ R.slots) (hdg : decode cc pc = .ok (.anewarray index, 3))
    (kk : ∀ (q : Nat) (H1 : Heap), va_P (dC, dI) vwCl (ws ++ [(q, .inl (cT t, N', .inr (.inr (.inr (.inr (fun _ => none))))))]) H1 → va_D A (ws ++ [(q, .inl (cT t, N', .inr (.inr (.inr (.inr (fun _ => none))))))]) → va_S A H0 H1 locs →
      W p l e R s m args below meth c H1 locs (cells + 1) (slots + N') Q (F0 m (pc + 3) ls (.ref q :: rest))) : W p l e R s m args below meth c H locs cells slots Q (F0 m pc ls (.int n :: rest)) := by
  refine va_newq hexec hb hown hclink hover hK hP hD hS hA hn hN hbytes hcells hslots hdg (fun q cA H1 hK1 hP1 hD1 hS1 => ?_)
  obtain ⟨_, _, _, _, _, f1⟩ := (hK.2 t _ ht).2
  obtain ⟨_, _, _, _, _, f2⟩ := (hK1.2 (TYS cT).length (cA, .object C) (by simp)).2
  have : cA = cT t := Option.some.inj (f2.symm.trans f1)
  subst this
  exact kk q H1 hP1 hD1 hS1
end NWR
set_option maxHeartbeats 4000000 in
set_option maxRecDepth 20000 in
theorem n_class (l : Launch) (h0 sz : Nat) : Met l yX7_init (Cond.code yX7_init cX7_init 2 none :: GW) (rmN 3 79 914) (PcN cT dC dI [.ref h0] [(h0, .inr (7, [.null, .null, .null, .null, .null, .null, .null, .null, .int 0, .int 0]))] sz) (QcN dC dI (fun w => G7 cT h0 w) [(h0, .inr (7, [.null, .null, .null, .null, .null, .null, .null, .null, .int 0, .int 0]))] sz) 79 914 (va_A [(h0, .inr (7, [.null, .null, .null, .null, .null, .null, .null, .null, .int 0, .int 0]))] sz) := by
  refine Met.ofW (cc := cX7_init) (maxL := 2) (ret := none) (by decide) rfl ?_
  intro p e s m args below meth c s₁ B hml hv
  obtain ⟨rfl, hWK, hsz, hP, hD0⟩ := hv
  have hx := B.exec
  have hb := B.bytes
  have hr := B.returns
  have hts0 := atoms_spec (ws := Cond.code yX7_init cX7_init 2 none :: GW) B.pre
  have hts : ∀ w ∈ GW, w.before _ s = true := fun w hw => hts0 w (List.mem_cons_of_mem _ hw)
  have hown : s.vm.findClass RX7 = some m.cls := findClass_of_methodNamed B.named
  have hlocks := B.notSynchronized
  have hin : meth.name = "<init>" := (name_of_methodNamed B.named B.method).1
  have hK := hWK.1
  subst hsz
  have hD := hD0.self (sz := s.heap.size)
  have hA : ∀ q : Nat, s.heap.size ≤ q → va_A [(h0, .inr (7, [.null, .null, .null, .null, .null, .null, .null, .null, .int 0, .int 0]))] s.heap.size q := fun q h => Or.inr h
  have hS : va_S (va_A [(h0, .inr (7, [.null, .null, .null, .null, .null, .null, .null, .null, .int 0, .int 0]))] s.heap.size) s.heap s.heap [] := va_S.rf
  have hl := lv_entry [.ref h0] (n := 2) (Nat.le_of_ble_eq_true rfl)
  rw [lg_entry_eq]
  generalize (lg_sl [.ref h0] ++ List.replicate (2 - (lg_sl [.ref h0]).length) Slot.unset).toArray = ls at hl ⊢
  have hl : lv_has ls 2 [(0, .ref h0)] := hl
  refine lv_aload_n hx hb dc_cp_0 rfl (lv_at hl 0 rfl) ?_
  refine W.objInit hx hb hown (hts _ kc_cp_ol) (hts _ kc_cp_oi) (hts _ kc_cp_oc) rfl (by rw [hml]; exact hl.1) rfl dc_cp_1 (Nat.le_of_ble_eq_true rfl) (Nat.le_of_ble_eq_true rfl) ?_
  refine W.eq (g2 := F0 m 4 ls []) rfl ?_
  have hP : va_P (dC, dI) vwCl ((h0, .inr (7, [.null, .null, .null, .null, .null, .null, .null, .null, .int 0, .int 0])) :: []) _ := hP
  have hD : va_D (va_A [(h0, .inr (7, [.null, .null, .null, .null, .null, .null, .null, .null, .int 0, .int 0]))] s.heap.size) ((h0, .inr (7, [.null, .null, .null, .null, .null, .null, .null, .null, .int 0, .int 0])) :: []) := hD
  refine lv_aload_n hx hb dc_cp_4 rfl (lv_at hl 0 rfl) ?_
  refine va_new (ci := 4) (fs := [.null, .int 0]) (C := RX4) (T := TX4) (N := 2) hx hb hts (cl_ok 4 _ rfl).1 tyX4 tyX4_ok hown (hts _ kc_cp_cl7) (hts _ kc_cp_itX4) (hts _ kc_cp_iiX4) hK hP hD hS hA rfl (fun j hj => by rcases (show j = 0 ∨ j = 1 by omega) with rfl | rfl <;> rfl) (Nat.le_of_ble_eq_true rfl) (Nat.le_of_ble_eq_true rfl) dc_cp_5 (fun t0 H hP hD hS => ?_)
  refine lv_dup hx hb dc_cp_8 rfl ?_
  refine mk_back (x := (t0, .inr (4, [.null, .int 0]))) (va_runIN (Ts := GW) (As := []) (rest := [.ref t0, .ref h0]) ⟨hx, hb, hml, hown, hts⟩ (n_tape (cT := cT) (dC := dC) (dI := dI) l t0 H.size) ⟨va_cnB (Ts := GW) (ws' := GW) (host := "CellPacks") 0 hts (gwc kc_cp_kcX4) rfl rfl rfl (hWK.2.1 _ kc_cp_ml9) (hts _ kc_cp_iiX4) ⟨by decide +kernel, by decide +kernel, by decide +kernel⟩ ⟨Nat.le_of_ble_eq_true rfl, Nat.le_of_ble_eq_true rfl⟩, rfl, hts _ kc_cp_imX4⟩ ⟨PcN_blind _ _ _, fun U hU hW => ⟨rfl, hWK.go hW, by rw [hU], by rw [hU]; exact hP.last, hD.last.weaken (fun _ _ _ _ => trivial)⟩⟩ rfl rfl hl.1 rfl (lv_room (Nat.le_of_ble_eq_true rfl)) dc_cp_9 ⟨Nat.le_of_ble_eq_true rfl, Nat.le_of_ble_eq_true rfl⟩) hP hD hS hA (fun w H locs hG hP hD hS => ?_)
  obtain ⟨b0, rfl⟩ := hG
  have hP := hP.fr1
  have hD := hD.fr1
  refine va_putF hx hb hts (cl_ok 7 _ rfl).1 tyX7 tyX7_ok nmX7 hown hK hP hD hS 0 rfl rfl 0 (by decide) (hts _ kc_cp_f10) (fun _ h => h) rfl hin rfl rfl rfl rfl (Nat.le_of_ble_eq_true rfl) dc_cp_12 (fun H locs hP hD hS => ?_)
  obtain ⟨V1, hV1⟩ : ∃ V : va_W, V = wTape cT t0 b0 ++ [] := ⟨_, rfl⟩
  have hP : va_P (dC, dI) vwCl ((h0, .inr (7, [.ref t0, .null, .null, .null, .null, .null, .null, .null, .int 0, .int 0])) :: V1) H := by rw [hV1]; exact hP
  have hD : va_D (va_A [(h0, .inr (7, [.null, .null, .null, .null, .null, .null, .null, .null, .int 0, .int 0]))] s.heap.size) ((h0, .inr (7, [.ref t0, .null, .null, .null, .null, .null, .null, .null, .int 0, .int 0])) :: V1) := by rw [hV1]; exact hD
  refine lv_aload_n hx hb dc_cp_15 rfl (lv_at hl 0 rfl) ?_
  refine va_new (ci := 2) (fs := [.null, .null, .null, .null, .int 0, .int 0, .int 0, .int 0, .int 0]) (C := RX2) (T := TX2) (N := 9) hx hb hts (cl_ok 2 _ rfl).1 tyX2 tyX2_ok hown (hts _ kc_cp_cl16) (hts _ kc_cp_itX2) (hts _ kc_cp_iiX2) hK hP hD hS hA rfl (fun j hj => by rcases (show j = 0 ∨ j = 1 ∨ j = 2 ∨ j = 3 ∨ j = 4 ∨ j = 5 ∨ j = 6 ∨ j = 7 ∨ j = 8 by omega) with rfl | rfl | rfl | rfl | rfl | rfl | rfl | rfl | rfl <;> rfl) (Nat.le_of_ble_eq_true rfl) (Nat.le_of_ble_eq_true rfl) dc_cp_16 (fun p0 H hP hD hS => ?_)
  refine lv_dup hx hb dc_cp_19 rfl ?_
  refine mk_back (x := (p0, .inr (2, [.null, .null, .null, .null, .int 0, .int 0, .int 0, .int 0, .int 0]))) (va_runIN (Ts := GW) (As := []) (rest := [.ref p0, .ref h0]) ⟨hx, hb, hml, hown, hts⟩ (n_pack (cT := cT) (dC := dC) (dI := dI) l p0 H.size) ⟨va_cnB (Ts := GW) (ws' := GW) (host := "CellPacks") 0 hts (gwc kc_cp_kcX2) rfl rfl rfl (hWK.2.1 _ kc_cp_ml18) (hts _ kc_cp_iiX2) ⟨by decide +kernel, by decide +kernel, by decide +kernel⟩ ⟨Nat.le_of_ble_eq_true rfl, Nat.le_of_ble_eq_true rfl⟩, rfl, hts _ kc_cp_imX2⟩ ⟨PcN_blind _ _ _, fun U hU hW => ⟨rfl, hWK.go hW, by rw [hU], by rw [hU]; exact hP.last, hD.last.weaken (fun _ _ _ _ => trivial)⟩⟩ rfl rfl hl.1 rfl (lv_room (Nat.le_of_ble_eq_true rfl)) dc_cp_20 ⟨Nat.le_of_ble_eq_true rfl, Nat.le_of_ble_eq_true rfl⟩) hP hD hS hA (fun w H locs hG hP hD hS => ?_)
  obtain ⟨p1, p2, p3, p4, rfl⟩ := hG
  have hP := hP.fr1
  have hD := hD.fr1
  refine va_putF hx hb hts (cl_ok 7 _ rfl).1 tyX7 tyX7_ok nmX7 hown hK hP hD hS 0 rfl rfl 1 (by decide) (hts _ kc_cp_f19) (fun _ h => h) rfl hin rfl rfl rfl rfl (Nat.le_of_ble_eq_true rfl) dc_cp_23 (fun H locs hP hD hS => ?_)
  obtain ⟨V2, hV2⟩ : ∃ V : va_W, V = wPk cT p0 p1 p2 p3 p4 ++ V1 := ⟨_, rfl⟩
  have hP : va_P (dC, dI) vwCl ((h0, .inr (7, [.ref t0, .ref p0, .null, .null, .null, .null, .null, .null, .int 0, .int 0])) :: V2) H := by rw [hV2]; exact hP
  have hD : va_D (va_A [(h0, .inr (7, [.null, .null, .null, .null, .null, .null, .null, .null, .int 0, .int 0]))] s.heap.size) ((h0, .inr (7, [.ref t0, .ref p0, .null, .null, .null, .null, .null, .null, .int 0, .int 0])) :: V2) := by rw [hV2]; exact hD
  refine lv_aload_n hx hb dc_cp_26 rfl (lv_at hl 0 rfl) ?_
  refine va_new (ci := 2) (fs := [.null, .null, .null, .null, .int 0, .int 0, .int 0, .int 0, .int 0]) (C := RX2) (T := TX2) (N := 9) hx hb hts (cl_ok 2 _ rfl).1 tyX2 tyX2_ok hown (hts _ kc_cp_cl16) (hts _ kc_cp_itX2) (hts _ kc_cp_iiX2) hK hP hD hS hA rfl (fun j hj => by rcases (show j = 0 ∨ j = 1 ∨ j = 2 ∨ j = 3 ∨ j = 4 ∨ j = 5 ∨ j = 6 ∨ j = 7 ∨ j = 8 by omega) with rfl | rfl | rfl | rfl | rfl | rfl | rfl | rfl | rfl <;> rfl) (Nat.le_of_ble_eq_true rfl) (Nat.le_of_ble_eq_true rfl) dc_cp_27 (fun d0 H hP hD hS => ?_)
  refine lv_dup hx hb dc_cp_30 rfl ?_
  refine mk_back (x := (d0, .inr (2, [.null, .null, .null, .null, .int 0, .int 0, .int 0, .int 0, .int 0]))) (va_runIN (Ts := GW) (As := []) (rest := [.ref d0, .ref h0]) ⟨hx, hb, hml, hown, hts⟩ (n_pack (cT := cT) (dC := dC) (dI := dI) l d0 H.size) ⟨va_cnB (Ts := GW) (ws' := GW) (host := "CellPacks") 0 hts (gwc kc_cp_kcX2) rfl rfl rfl (hWK.2.1 _ kc_cp_ml18) (hts _ kc_cp_iiX2) ⟨by decide +kernel, by decide +kernel, by decide +kernel⟩ ⟨Nat.le_of_ble_eq_true rfl, Nat.le_of_ble_eq_true rfl⟩, rfl, hts _ kc_cp_imX2⟩ ⟨PcN_blind _ _ _, fun U hU hW => ⟨rfl, hWK.go hW, by rw [hU], by rw [hU]; exact hP.last, hD.last.weaken (fun _ _ _ _ => trivial)⟩⟩ rfl rfl hl.1 rfl (lv_room (Nat.le_of_ble_eq_true rfl)) dc_cp_31 ⟨Nat.le_of_ble_eq_true rfl, Nat.le_of_ble_eq_true rfl⟩) hP hD hS hA (fun w H locs hG hP hD hS => ?_)
  obtain ⟨d1, d2, d3, d4, rfl⟩ := hG
  have hP := hP.fr1
  have hD := hD.fr1
  refine va_putF hx hb hts (cl_ok 7 _ rfl).1 tyX7 tyX7_ok nmX7 hown hK hP hD hS 0 rfl rfl 2 (by decide) (hts _ kc_cp_f23) (fun _ h => h) rfl hin rfl rfl rfl rfl (Nat.le_of_ble_eq_true rfl) dc_cp_34 (fun H locs hP hD hS => ?_)
  obtain ⟨V3, hV3⟩ : ∃ V : va_W, V = wPk cT d0 d1 d2 d3 d4 ++ V2 := ⟨_, rfl⟩
  have hP : va_P (dC, dI) vwCl ((h0, .inr (7, [.ref t0, .ref p0, .ref d0, .null, .null, .null, .null, .null, .int 0, .int 0])) :: V3) H := by rw [hV3]; exact hP
  have hD : va_D (va_A [(h0, .inr (7, [.null, .null, .null, .null, .null, .null, .null, .null, .int 0, .int 0]))] s.heap.size) ((h0, .inr (7, [.ref t0, .ref p0, .ref d0, .null, .null, .null, .null, .null, .int 0, .int 0])) :: V3) := by rw [hV3]; exact hD
  refine lv_aload_n hx hb dc_cp_37 rfl (lv_at hl 0 rfl) ?_
  refine va_new (ci := 5) (fs := [.null, .null, .int 0, .int 0, .int 0, .int 0, .int 0, .int 0, .int 0]) (C := RX5) (T := TX5) (N := 9) hx hb hts (cl_ok 5 _ rfl).1 tyX5 tyX5_ok hown (hts _ kc_cp_cl26) (hts _ kc_cp_itX5) (hts _ kc_cp_iiX5) hK hP hD hS hA rfl (fun j hj => by rcases (show j = 0 ∨ j = 1 ∨ j = 2 ∨ j = 3 ∨ j = 4 ∨ j = 5 ∨ j = 6 ∨ j = 7 ∨ j = 8 by omega) with rfl | rfl | rfl | rfl | rfl | rfl | rfl | rfl | rfl <;> rfl) (Nat.le_of_ble_eq_true rfl) (Nat.le_of_ble_eq_true rfl) dc_cp_38 (fun rd H hP hD hS => ?_)
  refine lv_dup hx hb dc_cp_41 rfl ?_
  refine lv_aload_n hx hb dc_cp_42 rfl (lv_at hl 0 rfl) ?_
  refine va_get hx hb hts (cl_ok 7 _ rfl).1 hown hK hP 0 rfl rfl 0 (by decide) (hts _ kc_cp_f10) (fun _ h => h) rfl dc_cp_43 ?_
  refine lv_aload_n hx hb dc_cp_46 rfl (lv_at hl 0 rfl) ?_
  refine va_get hx hb hts (cl_ok 7 _ rfl).1 hown hK hP 0 rfl rfl 2 (by decide) (hts _ kc_cp_f23) (fun _ h => h) rfl dc_cp_47 ?_
  refine mk_back (x := (rd, .inr (5, [.null, .null, .int 0, .int 0, .int 0, .int 0, .int 0, .int 0, .int 0]))) (va_runIN (Ts := GW) (As := [.ref t0, .ref d0]) (rest := [.ref rd, .ref h0]) ⟨hx, hb, hml, hown, hts⟩ (n_reader (cT := cT) (dC := dC) (dI := dI) l t0 d0 rd H.size) ⟨va_cnB (Ts := GW) (ws' := GW) (host := "CellPacks") 2 hts (gwc kc_cp_kcX5) rfl rfl rfl (hWK.2.1 _ kc_cp_ml28) (hts _ kc_cp_iiX5) ⟨by decide +kernel, by decide +kernel, by decide +kernel⟩ ⟨Nat.le_of_ble_eq_true rfl, Nat.le_of_ble_eq_true rfl⟩, rfl, hts _ kc_cp_imX5⟩ ⟨PcN_blind _ _ _, fun U hU hW => ⟨rfl, hWK.go hW, by rw [hU], by rw [hU]; exact hP.last, hD.last.weaken (fun _ _ _ _ => trivial)⟩⟩ rfl rfl hl.1 rfl (lv_room (Nat.le_of_ble_eq_true rfl)) dc_cp_50 ⟨Nat.le_of_ble_eq_true rfl, Nat.le_of_ble_eq_true rfl⟩) hP hD hS hA (fun w H locs hG hP hD hS => ?_)
  subst hG
  have hP := hP.fr1
  have hD := hD.fr1
  refine va_putF hx hb hts (cl_ok 7 _ rfl).1 tyX7 tyX7_ok nmX7 hown hK hP hD hS 0 rfl rfl 3 (by decide) (hts _ kc_cp_f31) (fun _ h => h) rfl hin rfl rfl rfl rfl (Nat.le_of_ble_eq_true rfl) dc_cp_53 (fun H locs hP hD hS => ?_)
  obtain ⟨V4, hV4⟩ : ∃ V : va_W, V = wRd rd t0 d0 ++ V3 := ⟨_, rfl⟩
  have hP : va_P (dC, dI) vwCl ((h0, .inr (7, [.ref t0, .ref p0, .ref d0, .ref rd, .null, .null, .null, .null, .int 0, .int 0])) :: V4) H := by rw [hV4]; exact hP
  have hD : va_D (va_A [(h0, .inr (7, [.null, .null, .null, .null, .null, .null, .null, .null, .int 0, .int 0]))] s.heap.size) ((h0, .inr (7, [.ref t0, .ref p0, .ref d0, .ref rd, .null, .null, .null, .null, .int 0, .int 0])) :: V4) := by rw [hV4]; exact hD
  refine lv_aload_n hx hb dc_cp_56 rfl (lv_at hl 0 rfl) ?_
  refine lv_iconst (v := 2) hx hb dc_cp_57 (by decide) ?_
  refine nw_ref (t := 3) (C := RX2) hx hb hown (hts _ kc_cp_cl16) hWK.2.2.1 hK hP hD hS hA rfl (N' := 2) (by decide) (by decide) (Nat.le_of_ble_eq_true rfl) (Nat.le_of_ble_eq_true rfl) (Nat.le_of_ble_eq_true rfl) dc_cp_58 (fun im H hP hD hS => ?_)
  have hP := hP.fr1
  have hD := hD.fr1
  refine va_putF hx hb hts (cl_ok 7 _ rfl).1 tyX7 tyX7_ok nmX7 hown hK hP hD hS 0 rfl rfl 4 (by decide) (hts _ kc_cp_f35) (fun _ h => h) rfl hin rfl rfl rfl rfl (Nat.le_of_ble_eq_true rfl) dc_cp_61 (fun H locs hP hD hS => ?_)
  have hP : va_P (dC, dI) vwCl ((h0, .inr (7, [.ref t0, .ref p0, .ref d0, .ref rd, .ref im, .null, .null, .null, .int 0, .int 0])) :: (im, .inl (cT 3, 2, .inr (.inr (.inr (.inr (fun _ => none)))))) :: V4) H := hP
  have hD : va_D (va_A [(h0, .inr (7, [.null, .null, .null, .null, .null, .null, .null, .null, .int 0, .int 0]))] s.heap.size) ((h0, .inr (7, [.ref t0, .ref p0, .ref d0, .ref rd, .ref im, .null, .null, .null, .int 0, .int 0])) :: (im, .inl (cT 3, 2, .inr (.inr (.inr (.inr (fun _ => none)))))) :: V4) := hD
  refine lv_iconst (v := 0) hx hb dc_cp_64 (by decide) ?_
  refine lv_istore_n (lv' := [(1, .int 0), (0, .ref h0)]) hx hb dc_cp_65 rfl hl (by decide) rfl (fun ls hl => ?_)
  refine lv_iload_n hx hb dc_cp_66 rfl (lv_at hl 0 rfl) ?_
  refine lv_iconst (v := 2) hx hb dc_cp_67 (by decide) ?_
  refine lv_icmp_ge (tgt := 90) hx hb dc_cp_68 (by decide) (fun g => absurd g (by decide)) (fun _ => ?_)
  refine lv_aload_n hx hb dc_cp_71 rfl (lv_at hl 1 rfl) ?_
  refine va_get hx hb hts (cl_ok 7 _ rfl).1 hown hK hP 0 rfl rfl 4 (by decide) (hts _ kc_cp_f35) (fun _ h => h) rfl dc_cp_72 ?_
  refine lv_iload_n hx hb dc_cp_75 rfl (lv_at hl 0 rfl) ?_
  refine va_new (ci := 2) (fs := [.null, .null, .null, .null, .int 0, .int 0, .int 0, .int 0, .int 0]) (C := RX2) (T := TX2) (N := 9) hx hb hts (cl_ok 2 _ rfl).1 tyX2 tyX2_ok hown (hts _ kc_cp_cl16) (hts _ kc_cp_itX2) (hts _ kc_cp_iiX2) hK hP hD hS hA rfl (fun j hj => by rcases (show j = 0 ∨ j = 1 ∨ j = 2 ∨ j = 3 ∨ j = 4 ∨ j = 5 ∨ j = 6 ∨ j = 7 ∨ j = 8 by omega) with rfl | rfl | rfl | rfl | rfl | rfl | rfl | rfl | rfl <;> rfl) (Nat.le_of_ble_eq_true rfl) (Nat.le_of_ble_eq_true rfl) dc_cp_76 (fun x0 H hP hD hS => ?_)
  refine lv_dup hx hb dc_cp_79 rfl ?_
  refine mk_back (x := (x0, .inr (2, [.null, .null, .null, .null, .int 0, .int 0, .int 0, .int 0, .int 0]))) (va_runIN (Ts := GW) (As := []) (rest := [.ref x0, .int 0, .ref im]) ⟨hx, hb, hml, hown, hts⟩ (n_pack (cT := cT) (dC := dC) (dI := dI) l x0 H.size) ⟨va_cnB (Ts := GW) (ws' := GW) (host := "CellPacks") 0 hts (gwc kc_cp_kcX2) rfl rfl rfl (hWK.2.1 _ kc_cp_ml18) (hts _ kc_cp_iiX2) ⟨by decide +kernel, by decide +kernel, by decide +kernel⟩ ⟨Nat.le_of_ble_eq_true rfl, Nat.le_of_ble_eq_true rfl⟩, rfl, hts _ kc_cp_imX2⟩ ⟨PcN_blind _ _ _, fun U hU hW => ⟨rfl, hWK.go hW, by rw [hU], by rw [hU]; exact hP.last, hD.last.weaken (fun _ _ _ _ => trivial)⟩⟩ rfl rfl hl.1 rfl (lv_room (Nat.le_of_ble_eq_true rfl)) dc_cp_80 ⟨Nat.le_of_ble_eq_true rfl, Nat.le_of_ble_eq_true rfl⟩) hP hD hS hA (fun w H locs hG hP hD hS => ?_)
  obtain ⟨x1, x2, x3, x4, rfl⟩ := hG
  have hP := hP.fr2
  have hD := hD.fr2
  refine va_astq hx hb hK hP hD hS 1 3 2 2 rfl rfl rfl rfl (by unfold vp_in; decide) dc_cp_83 (fun H locs hP hD hS => ?_)
  obtain ⟨V5, hV5⟩ : ∃ V : va_W, V = wPk cT x0 x1 x2 x3 x4 ++ V4 := ⟨_, rfl⟩
  have hP : va_P (dC, dI) vwCl ((h0, .inr (7, [.ref t0, .ref p0, .ref d0, .ref rd, .ref im, .null, .null, .null, .int 0, .int 0])) :: (im, .inl (cT 3, 2, .inr (.inr (.inr (.inr (va_up (fun _ => none) (0 : Int32).toNatClampNeg (some x0))))))) :: V5) H := by rw [hV5]; exact hP
  have hD : va_D (va_A [(h0, .inr (7, [.null, .null, .null, .null, .null, .null, .null, .null, .int 0, .int 0]))] s.heap.size) ((h0, .inr (7, [.ref t0, .ref p0, .ref d0, .ref rd, .ref im, .null, .null, .null, .int 0, .int 0])) :: (im, .inl (cT 3, 2, .inr (.inr (.inr (.inr (va_up (fun _ => none) (0 : Int32).toNatClampNeg (some x0))))))) :: V5) := by rw [hV5]; exact hD
  refine lv_iinc (v := 1) (lv' := [(1, .int 1), (0, .ref h0)]) hx hb dc_cp_84 hl (k := 0) rfl (by decide) (by decide) rfl (fun ls hl => ?_)
  refine lv_goto (tgt := 66) hx hb dc_cp_87 (by decide) ?_
  refine lv_iload_n hx hb dc_cp_66 rfl (lv_at hl 0 rfl) ?_
  refine lv_iconst (v := 2) hx hb dc_cp_67 (by decide) ?_
  refine lv_icmp_ge (tgt := 90) hx hb dc_cp_68 (by decide) (fun g => absurd g (by decide)) (fun _ => ?_)
  refine lv_aload_n hx hb dc_cp_71 rfl (lv_at hl 1 rfl) ?_
  refine va_get hx hb hts (cl_ok 7 _ rfl).1 hown hK hP 0 rfl rfl 4 (by decide) (hts _ kc_cp_f35) (fun _ h => h) rfl dc_cp_72 ?_
  refine lv_iload_n hx hb dc_cp_75 rfl (lv_at hl 0 rfl) ?_
  refine va_new (ci := 2) (fs := [.null, .null, .null, .null, .int 0, .int 0, .int 0, .int 0, .int 0]) (C := RX2) (T := TX2) (N := 9) hx hb hts (cl_ok 2 _ rfl).1 tyX2 tyX2_ok hown (hts _ kc_cp_cl16) (hts _ kc_cp_itX2) (hts _ kc_cp_iiX2) hK hP hD hS hA rfl (fun j hj => by rcases (show j = 0 ∨ j = 1 ∨ j = 2 ∨ j = 3 ∨ j = 4 ∨ j = 5 ∨ j = 6 ∨ j = 7 ∨ j = 8 by omega) with rfl | rfl | rfl | rfl | rfl | rfl | rfl | rfl | rfl <;> rfl) (Nat.le_of_ble_eq_true rfl) (Nat.le_of_ble_eq_true rfl) dc_cp_76 (fun y0 H hP hD hS => ?_)
  refine lv_dup hx hb dc_cp_79 rfl ?_
  refine mk_back (x := (y0, .inr (2, [.null, .null, .null, .null, .int 0, .int 0, .int 0, .int 0, .int 0]))) (va_runIN (Ts := GW) (As := []) (rest := [.ref y0, .int 1, .ref im]) ⟨hx, hb, hml, hown, hts⟩ (n_pack (cT := cT) (dC := dC) (dI := dI) l y0 H.size) ⟨va_cnB (Ts := GW) (ws' := GW) (host := "CellPacks") 0 hts (gwc kc_cp_kcX2) rfl rfl rfl (hWK.2.1 _ kc_cp_ml18) (hts _ kc_cp_iiX2) ⟨by decide +kernel, by decide +kernel, by decide +kernel⟩ ⟨Nat.le_of_ble_eq_true rfl, Nat.le_of_ble_eq_true rfl⟩, rfl, hts _ kc_cp_imX2⟩ ⟨PcN_blind _ _ _, fun U hU hW => ⟨rfl, hWK.go hW, by rw [hU], by rw [hU]; exact hP.last, hD.last.weaken (fun _ _ _ _ => trivial)⟩⟩ rfl rfl hl.1 rfl (lv_room (Nat.le_of_ble_eq_true rfl)) dc_cp_80 ⟨Nat.le_of_ble_eq_true rfl, Nat.le_of_ble_eq_true rfl⟩) hP hD hS hA (fun w H locs hG hP hD hS => ?_)
  obtain ⟨y1, y2, y3, y4, rfl⟩ := hG
  have hP := hP.fr2
  have hD := hD.fr2
  refine va_astq hx hb hK hP hD hS 1 3 2 2 rfl rfl rfl rfl (by unfold vp_in; decide) dc_cp_83 (fun H locs hP hD hS => ?_)
  obtain ⟨V6, hV6⟩ : ∃ V : va_W, V = wPk cT y0 y1 y2 y3 y4 ++ V5 := ⟨_, rfl⟩
  have hP : va_P (dC, dI) vwCl ((h0, .inr (7, [.ref t0, .ref p0, .ref d0, .ref rd, .ref im, .null, .null, .null, .int 0, .int 0])) :: (im, .inl (cT 3, 2, .inr (.inr (.inr (.inr (va_up (va_up (fun _ => none) (0 : Int32).toNatClampNeg (some x0)) (1 : Int32).toNatClampNeg (some y0))))))) :: V6) H := by rw [hV6]; exact hP
  have hD : va_D (va_A [(h0, .inr (7, [.null, .null, .null, .null, .null, .null, .null, .null, .int 0, .int 0]))] s.heap.size) ((h0, .inr (7, [.ref t0, .ref p0, .ref d0, .ref rd, .ref im, .null, .null, .null, .int 0, .int 0])) :: (im, .inl (cT 3, 2, .inr (.inr (.inr (.inr (va_up (va_up (fun _ => none) (0 : Int32).toNatClampNeg (some x0)) (1 : Int32).toNatClampNeg (some y0))))))) :: V6) := by rw [hV6]; exact hD
  refine lv_iinc (v := 2) (lv' := [(1, .int 2), (0, .ref h0)]) hx hb dc_cp_84 hl (k := 0) rfl (by decide) (by decide) rfl (fun ls hl => ?_)
  refine lv_goto (tgt := 66) hx hb dc_cp_87 (by decide) ?_
  refine lv_iload_n hx hb dc_cp_66 rfl (lv_at hl 0 rfl) ?_
  refine lv_iconst (v := 2) hx hb dc_cp_67 (by decide) ?_
  refine lv_icmp_ge (tgt := 90) hx hb dc_cp_68 (by decide) (fun _ => ?_) (fun g => absurd (by decide) g)
  obtain ⟨V7, hV7⟩ : ∃ V : va_W, V = (im, .inl (cT 3, 2, .inr (.inr (.inr (.inr (va_up (va_up (fun _ => none) (0 : Int32).toNatClampNeg (some x0)) (1 : Int32).toNatClampNeg (some y0))))))) :: V6 := ⟨_, rfl⟩
  have hP : va_P (dC, dI) vwCl ((h0, .inr (7, [.ref t0, .ref p0, .ref d0, .ref rd, .ref im, .null, .null, .null, .int 0, .int 0])) :: V7) H := by rw [hV7]; exact hP
  have hD : va_D (va_A [(h0, .inr (7, [.null, .null, .null, .null, .null, .null, .null, .null, .int 0, .int 0]))] s.heap.size) ((h0, .inr (7, [.ref t0, .ref p0, .ref d0, .ref rd, .ref im, .null, .null, .null, .int 0, .int 0])) :: V7) := by rw [hV7]; exact hD
  refine lv_aload_n hx hb dc_cp_90 rfl (lv_at hl 1 rfl) ?_
  refine lv_iconst (v := 2) hx hb dc_cp_91 (by decide) ?_
  refine nw_arr (atype := .boolean) (t := 2) hx hb (hts _ kc_cp_aboolean) rfl hK hP hD hS hA rfl (N' := 2) (by decide) (by decide) (fun _ => rfl) (Nat.le_of_ble_eq_true rfl) (Nat.le_of_ble_eq_true rfl) (Nat.le_of_ble_eq_true rfl) dc_cp_92 (fun kp H hP hD hS => ?_)
  have hP := hP.fr1
  have hD := hD.fr1
  refine va_putF hx hb hts (cl_ok 7 _ rfl).1 tyX7 tyX7_ok nmX7 hown hK hP hD hS 0 rfl rfl 5 (by decide) (hts _ kc_cp_f39) (fun _ h => h) rfl hin rfl rfl rfl rfl (Nat.le_of_ble_eq_true rfl) dc_cp_94 (fun H locs hP hD hS => ?_)
  obtain ⟨V8, hV8⟩ : ∃ V : va_W, V = (kp, zA (cT 2) 2) :: V7 := ⟨_, rfl⟩
  have hP : va_P (dC, dI) vwCl ((h0, .inr (7, [.ref t0, .ref p0, .ref d0, .ref rd, .ref im, .ref kp, .null, .null, .int 0, .int 0])) :: V8) H := by rw [hV8]; exact hP
  have hD : va_D (va_A [(h0, .inr (7, [.null, .null, .null, .null, .null, .null, .null, .null, .int 0, .int 0]))] s.heap.size) ((h0, .inr (7, [.ref t0, .ref p0, .ref d0, .ref rd, .ref im, .ref kp, .null, .null, .int 0, .int 0])) :: V8) := by rw [hV8]; exact hD
  refine lv_aload_n hx hb dc_cp_97 rfl (lv_at hl 1 rfl) ?_
  refine va_new (ci := 6) (fs := [.null, .null, .null, .null, .null]) (C := RX6) (T := TX6) (N := 5) hx hb hts (cl_ok 6 _ rfl).1 tyX6 tyX6_ok hown (hts _ kc_cp_cl43) (hts _ kc_cp_itX6) (hts _ kc_cp_iiX6) hK hP hD hS hA rfl (fun j hj => by rcases (show j = 0 ∨ j = 1 ∨ j = 2 ∨ j = 3 ∨ j = 4 by omega) with rfl | rfl | rfl | rfl | rfl <;> rfl) (Nat.le_of_ble_eq_true rfl) (Nat.le_of_ble_eq_true rfl) dc_cp_98 (fun wy H hP hD hS => ?_)
  refine lv_dup hx hb dc_cp_101 rfl ?_
  refine mk_back (x := (wy, .inr (6, [.null, .null, .null, .null, .null]))) (va_runIN (Ts := GW) (As := []) (rest := [.ref wy, .ref h0]) ⟨hx, hb, hml, hown, hts⟩ (n_ways (cT := cT) (dC := dC) (dI := dI) l wy H.size) ⟨va_cnB (Ts := GW) (ws' := GW) (host := "CellPacks") 0 hts (gwc kc_cp_kcX6) rfl rfl rfl (hWK.2.1 _ kc_cp_ml45) (hts _ kc_cp_iiX6) ⟨by decide +kernel, by decide +kernel, by decide +kernel⟩ ⟨Nat.le_of_ble_eq_true rfl, Nat.le_of_ble_eq_true rfl⟩, rfl, hts _ kc_cp_imX6⟩ ⟨PcN_blind _ _ _, fun U hU hW => ⟨rfl, hWK.go hW, by rw [hU], by rw [hU]; exact hP.last, hD.last.weaken (fun _ _ _ _ => trivial)⟩⟩ rfl rfl hl.1 rfl (lv_room (Nat.le_of_ble_eq_true rfl)) dc_cp_102 ⟨Nat.le_of_ble_eq_true rfl, Nat.le_of_ble_eq_true rfl⟩) hP hD hS hA (fun w H locs hG hP hD hS => ?_)
  obtain ⟨wa, wb, wc, df, o1, o2, r1, r2, g0, lg, e0, e1, e2, e3, rfl⟩ := hG
  have hP := hP.fr1
  have hD := hD.fr1
  refine va_putF hx hb hts (cl_ok 7 _ rfl).1 tyX7 tyX7_ok nmX7 hown hK hP hD hS 0 rfl rfl 6 (by decide) (hts _ kc_cp_f46) (fun _ h => h) rfl hin rfl rfl rfl rfl (Nat.le_of_ble_eq_true rfl) dc_cp_105 (fun H locs hP hD hS => ?_)
  obtain ⟨V9, hV9⟩ : ∃ V : va_W, V = wWy cT wy wa wb wc df o1 o2 r1 r2 g0 lg e0 e1 e2 e3 ++ V8 := ⟨_, rfl⟩
  have hP : va_P (dC, dI) vwCl ((h0, .inr (7, [.ref t0, .ref p0, .ref d0, .ref rd, .ref im, .ref kp, .ref wy, .null, .int 0, .int 0])) :: V9) H := by rw [hV9]; exact hP
  have hD : va_D (va_A [(h0, .inr (7, [.null, .null, .null, .null, .null, .null, .null, .null, .int 0, .int 0]))] s.heap.size) ((h0, .inr (7, [.ref t0, .ref p0, .ref d0, .ref rd, .ref im, .ref kp, .ref wy, .null, .int 0, .int 0])) :: V9) := by rw [hV9]; exact hD
  refine lv_aload_n hx hb dc_cp_108 rfl (lv_at hl 1 rfl) ?_
  refine lv_iconst (v := 4) hx hb dc_cp_109 (by decide) ?_
  refine nw_ref (t := 4) (C := RX3) hx hb hown (hts _ kc_cp_cl50) hWK.2.2.2.1 hK hP hD hS hA rfl (N' := 4) (by decide) (by decide) (Nat.le_of_ble_eq_true rfl) (Nat.le_of_ble_eq_true rfl) (Nat.le_of_ble_eq_true rfl) dc_cp_110 (fun ss H hP hD hS => ?_)
  have hP := hP.fr1
  have hD := hD.fr1
  refine va_putF hx hb hts (cl_ok 7 _ rfl).1 tyX7 tyX7_ok nmX7 hown hK hP hD hS 0 rfl rfl 7 (by decide) (hts _ kc_cp_f52) (fun _ h => h) rfl hin rfl rfl rfl rfl (Nat.le_of_ble_eq_true rfl) dc_cp_113 (fun H locs hP hD hS => ?_)
  have hP : va_P (dC, dI) vwCl ((h0, .inr (7, [.ref t0, .ref p0, .ref d0, .ref rd, .ref im, .ref kp, .ref wy, .ref ss, .int 0, .int 0])) :: (ss, .inl (cT 4, 4, .inr (.inr (.inr (.inr (fun _ => none)))))) :: V9) H := hP
  have hD : va_D (va_A [(h0, .inr (7, [.null, .null, .null, .null, .null, .null, .null, .null, .int 0, .int 0]))] s.heap.size) ((h0, .inr (7, [.ref t0, .ref p0, .ref d0, .ref rd, .ref im, .ref kp, .ref wy, .ref ss, .int 0, .int 0])) :: (ss, .inl (cT 4, 4, .inr (.inr (.inr (.inr (fun _ => none)))))) :: V9) := hD
  refine lv_iconst (v := 0) hx hb dc_cp_116 (by decide) ?_
  refine lv_istore_n (lv' := [(1, .int 0), (0, .ref h0)]) hx hb dc_cp_117 rfl hl (by decide) rfl (fun ls hl => ?_)
  refine lv_iload_n hx hb dc_cp_118 rfl (lv_at hl 0 rfl) ?_
  refine lv_iconst (v := 4) hx hb dc_cp_119 (by decide) ?_
  refine lv_icmp_ge (tgt := 142) hx hb dc_cp_120 (by decide) (fun g => absurd g (by decide)) (fun _ => ?_)
  refine lv_aload_n hx hb dc_cp_123 rfl (lv_at hl 1 rfl) ?_
  refine va_get hx hb hts (cl_ok 7 _ rfl).1 hown hK hP 0 rfl rfl 7 (by decide) (hts _ kc_cp_f52) (fun _ h => h) rfl dc_cp_124 ?_
  refine lv_iload_n hx hb dc_cp_127 rfl (lv_at hl 0 rfl) ?_
  refine va_new (ci := 3) (fs := [.null, .int 0, .int 0]) (C := RX3) (T := TX3) (N := 3) hx hb hts (cl_ok 3 _ rfl).1 tyX3 tyX3_ok hown (hts _ kc_cp_cl50) (hts _ kc_cp_itX3) (hts _ kc_cp_iiX3) hK hP hD hS hA rfl (fun j hj => by rcases (show j = 0 ∨ j = 1 ∨ j = 2 by omega) with rfl | rfl | rfl <;> rfl) (Nat.le_of_ble_eq_true rfl) (Nat.le_of_ble_eq_true rfl) dc_cp_128 (fun s0 H hP hD hS => ?_)
  refine lv_dup hx hb dc_cp_131 rfl ?_
  refine mk_back (x := (s0, .inr (3, [.null, .int 0, .int 0]))) (va_runIN (Ts := GW) (As := []) (rest := [.ref s0, .int 0, .ref ss]) ⟨hx, hb, hml, hown, hts⟩ (n_sheet (cT := cT) (dC := dC) (dI := dI) l s0 H.size) ⟨va_cnB (Ts := GW) (ws' := GW) (host := "CellPacks") 0 hts (gwc kc_cp_kcX3) rfl rfl rfl (hWK.2.1 _ kc_cp_ml56) (hts _ kc_cp_iiX3) ⟨by decide +kernel, by decide +kernel, by decide +kernel⟩ ⟨Nat.le_of_ble_eq_true rfl, Nat.le_of_ble_eq_true rfl⟩, rfl, hts _ kc_cp_imX3⟩ ⟨PcN_blind _ _ _, fun U hU hW => ⟨rfl, hWK.go hW, by rw [hU], by rw [hU]; exact hP.last, hD.last.weaken (fun _ _ _ _ => trivial)⟩⟩ rfl rfl hl.1 rfl (lv_room (Nat.le_of_ble_eq_true rfl)) dc_cp_132 ⟨Nat.le_of_ble_eq_true rfl, Nat.le_of_ble_eq_true rfl⟩) hP hD hS hA (fun w H locs hG hP hD hS => ?_)
  obtain ⟨u0, rfl⟩ := hG
  have hP := hP.fr2
  have hD := hD.fr2
  refine va_astq hx hb hK hP hD hS 1 4 2 3 rfl rfl rfl rfl (by unfold vp_in; decide) dc_cp_135 (fun H locs hP hD hS => ?_)
  obtain ⟨V10, hV10⟩ : ∃ V : va_W, V = wSh cT s0 u0 ++ V9 := ⟨_, rfl⟩
  have hP : va_P (dC, dI) vwCl ((h0, .inr (7, [.ref t0, .ref p0, .ref d0, .ref rd, .ref im, .ref kp, .ref wy, .ref ss, .int 0, .int 0])) :: (ss, .inl (cT 4, 4, .inr (.inr (.inr (.inr (va_up (fun _ => none) (0 : Int32).toNatClampNeg (some s0))))))) :: V10) H := by rw [hV10]; exact hP
  have hD : va_D (va_A [(h0, .inr (7, [.null, .null, .null, .null, .null, .null, .null, .null, .int 0, .int 0]))] s.heap.size) ((h0, .inr (7, [.ref t0, .ref p0, .ref d0, .ref rd, .ref im, .ref kp, .ref wy, .ref ss, .int 0, .int 0])) :: (ss, .inl (cT 4, 4, .inr (.inr (.inr (.inr (va_up (fun _ => none) (0 : Int32).toNatClampNeg (some s0))))))) :: V10) := by rw [hV10]; exact hD
  refine lv_iinc (v := 1) (lv' := [(1, .int 1), (0, .ref h0)]) hx hb dc_cp_136 hl (k := 0) rfl (by decide) (by decide) rfl (fun ls hl => ?_)
  refine lv_goto (tgt := 118) hx hb dc_cp_139 (by decide) ?_
  refine lv_iload_n hx hb dc_cp_118 rfl (lv_at hl 0 rfl) ?_
  refine lv_iconst (v := 4) hx hb dc_cp_119 (by decide) ?_
  refine lv_icmp_ge (tgt := 142) hx hb dc_cp_120 (by decide) (fun g => absurd g (by decide)) (fun _ => ?_)
  refine lv_aload_n hx hb dc_cp_123 rfl (lv_at hl 1 rfl) ?_
  refine va_get hx hb hts (cl_ok 7 _ rfl).1 hown hK hP 0 rfl rfl 7 (by decide) (hts _ kc_cp_f52) (fun _ h => h) rfl dc_cp_124 ?_
  refine lv_iload_n hx hb dc_cp_127 rfl (lv_at hl 0 rfl) ?_
  refine va_new (ci := 3) (fs := [.null, .int 0, .int 0]) (C := RX3) (T := TX3) (N := 3) hx hb hts (cl_ok 3 _ rfl).1 tyX3 tyX3_ok hown (hts _ kc_cp_cl50) (hts _ kc_cp_itX3) (hts _ kc_cp_iiX3) hK hP hD hS hA rfl (fun j hj => by rcases (show j = 0 ∨ j = 1 ∨ j = 2 by omega) with rfl | rfl | rfl <;> rfl) (Nat.le_of_ble_eq_true rfl) (Nat.le_of_ble_eq_true rfl) dc_cp_128 (fun s1 H hP hD hS => ?_)
  refine lv_dup hx hb dc_cp_131 rfl ?_
  refine mk_back (x := (s1, .inr (3, [.null, .int 0, .int 0]))) (va_runIN (Ts := GW) (As := []) (rest := [.ref s1, .int 1, .ref ss]) ⟨hx, hb, hml, hown, hts⟩ (n_sheet (cT := cT) (dC := dC) (dI := dI) l s1 H.size) ⟨va_cnB (Ts := GW) (ws' := GW) (host := "CellPacks") 0 hts (gwc kc_cp_kcX3) rfl rfl rfl (hWK.2.1 _ kc_cp_ml56) (hts _ kc_cp_iiX3) ⟨by decide +kernel, by decide +kernel, by decide +kernel⟩ ⟨Nat.le_of_ble_eq_true rfl, Nat.le_of_ble_eq_true rfl⟩, rfl, hts _ kc_cp_imX3⟩ ⟨PcN_blind _ _ _, fun U hU hW => ⟨rfl, hWK.go hW, by rw [hU], by rw [hU]; exact hP.last, hD.last.weaken (fun _ _ _ _ => trivial)⟩⟩ rfl rfl hl.1 rfl (lv_room (Nat.le_of_ble_eq_true rfl)) dc_cp_132 ⟨Nat.le_of_ble_eq_true rfl, Nat.le_of_ble_eq_true rfl⟩) hP hD hS hA (fun w H locs hG hP hD hS => ?_)
  obtain ⟨u1, rfl⟩ := hG
  have hP := hP.fr2
  have hD := hD.fr2
  refine va_astq hx hb hK hP hD hS 1 4 2 3 rfl rfl rfl rfl (by unfold vp_in; decide) dc_cp_135 (fun H locs hP hD hS => ?_)
  obtain ⟨V11, hV11⟩ : ∃ V : va_W, V = wSh cT s1 u1 ++ V10 := ⟨_, rfl⟩
  have hP : va_P (dC, dI) vwCl ((h0, .inr (7, [.ref t0, .ref p0, .ref d0, .ref rd, .ref im, .ref kp, .ref wy, .ref ss, .int 0, .int 0])) :: (ss, .inl (cT 4, 4, .inr (.inr (.inr (.inr (va_up (va_up (fun _ => none) (0 : Int32).toNatClampNeg (some s0)) (1 : Int32).toNatClampNeg (some s1))))))) :: V11) H := by rw [hV11]; exact hP
  have hD : va_D (va_A [(h0, .inr (7, [.null, .null, .null, .null, .null, .null, .null, .null, .int 0, .int 0]))] s.heap.size) ((h0, .inr (7, [.ref t0, .ref p0, .ref d0, .ref rd, .ref im, .ref kp, .ref wy, .ref ss, .int 0, .int 0])) :: (ss, .inl (cT 4, 4, .inr (.inr (.inr (.inr (va_up (va_up (fun _ => none) (0 : Int32).toNatClampNeg (some s0)) (1 : Int32).toNatClampNeg (some s1))))))) :: V11) := by rw [hV11]; exact hD
  refine lv_iinc (v := 2) (lv' := [(1, .int 2), (0, .ref h0)]) hx hb dc_cp_136 hl (k := 0) rfl (by decide) (by decide) rfl (fun ls hl => ?_)
  refine lv_goto (tgt := 118) hx hb dc_cp_139 (by decide) ?_
  refine lv_iload_n hx hb dc_cp_118 rfl (lv_at hl 0 rfl) ?_
  refine lv_iconst (v := 4) hx hb dc_cp_119 (by decide) ?_
  refine lv_icmp_ge (tgt := 142) hx hb dc_cp_120 (by decide) (fun g => absurd g (by decide)) (fun _ => ?_)
  refine lv_aload_n hx hb dc_cp_123 rfl (lv_at hl 1 rfl) ?_
  refine va_get hx hb hts (cl_ok 7 _ rfl).1 hown hK hP 0 rfl rfl 7 (by decide) (hts _ kc_cp_f52) (fun _ h => h) rfl dc_cp_124 ?_
  refine lv_iload_n hx hb dc_cp_127 rfl (lv_at hl 0 rfl) ?_
  refine va_new (ci := 3) (fs := [.null, .int 0, .int 0]) (C := RX3) (T := TX3) (N := 3) hx hb hts (cl_ok 3 _ rfl).1 tyX3 tyX3_ok hown (hts _ kc_cp_cl50) (hts _ kc_cp_itX3) (hts _ kc_cp_iiX3) hK hP hD hS hA rfl (fun j hj => by rcases (show j = 0 ∨ j = 1 ∨ j = 2 by omega) with rfl | rfl | rfl <;> rfl) (Nat.le_of_ble_eq_true rfl) (Nat.le_of_ble_eq_true rfl) dc_cp_128 (fun s2 H hP hD hS => ?_)
  refine lv_dup hx hb dc_cp_131 rfl ?_
  refine mk_back (x := (s2, .inr (3, [.null, .int 0, .int 0]))) (va_runIN (Ts := GW) (As := []) (rest := [.ref s2, .int 2, .ref ss]) ⟨hx, hb, hml, hown, hts⟩ (n_sheet (cT := cT) (dC := dC) (dI := dI) l s2 H.size) ⟨va_cnB (Ts := GW) (ws' := GW) (host := "CellPacks") 0 hts (gwc kc_cp_kcX3) rfl rfl rfl (hWK.2.1 _ kc_cp_ml56) (hts _ kc_cp_iiX3) ⟨by decide +kernel, by decide +kernel, by decide +kernel⟩ ⟨Nat.le_of_ble_eq_true rfl, Nat.le_of_ble_eq_true rfl⟩, rfl, hts _ kc_cp_imX3⟩ ⟨PcN_blind _ _ _, fun U hU hW => ⟨rfl, hWK.go hW, by rw [hU], by rw [hU]; exact hP.last, hD.last.weaken (fun _ _ _ _ => trivial)⟩⟩ rfl rfl hl.1 rfl (lv_room (Nat.le_of_ble_eq_true rfl)) dc_cp_132 ⟨Nat.le_of_ble_eq_true rfl, Nat.le_of_ble_eq_true rfl⟩) hP hD hS hA (fun w H locs hG hP hD hS => ?_)
  obtain ⟨u2, rfl⟩ := hG
  have hP := hP.fr2
  have hD := hD.fr2
  refine va_astq hx hb hK hP hD hS 1 4 2 3 rfl rfl rfl rfl (by unfold vp_in; decide) dc_cp_135 (fun H locs hP hD hS => ?_)
  obtain ⟨V12, hV12⟩ : ∃ V : va_W, V = wSh cT s2 u2 ++ V11 := ⟨_, rfl⟩
  have hP : va_P (dC, dI) vwCl ((h0, .inr (7, [.ref t0, .ref p0, .ref d0, .ref rd, .ref im, .ref kp, .ref wy, .ref ss, .int 0, .int 0])) :: (ss, .inl (cT 4, 4, .inr (.inr (.inr (.inr (va_up (va_up (va_up (fun _ => none) (0 : Int32).toNatClampNeg (some s0)) (1 : Int32).toNatClampNeg (some s1)) (2 : Int32).toNatClampNeg (some s2))))))) :: V12) H := by rw [hV12]; exact hP
  have hD : va_D (va_A [(h0, .inr (7, [.null, .null, .null, .null, .null, .null, .null, .null, .int 0, .int 0]))] s.heap.size) ((h0, .inr (7, [.ref t0, .ref p0, .ref d0, .ref rd, .ref im, .ref kp, .ref wy, .ref ss, .int 0, .int 0])) :: (ss, .inl (cT 4, 4, .inr (.inr (.inr (.inr (va_up (va_up (va_up (fun _ => none) (0 : Int32).toNatClampNeg (some s0)) (1 : Int32).toNatClampNeg (some s1)) (2 : Int32).toNatClampNeg (some s2))))))) :: V12) := by rw [hV12]; exact hD
  refine lv_iinc (v := 3) (lv' := [(1, .int 3), (0, .ref h0)]) hx hb dc_cp_136 hl (k := 0) rfl (by decide) (by decide) rfl (fun ls hl => ?_)
  refine lv_goto (tgt := 118) hx hb dc_cp_139 (by decide) ?_
  refine lv_iload_n hx hb dc_cp_118 rfl (lv_at hl 0 rfl) ?_
  refine lv_iconst (v := 4) hx hb dc_cp_119 (by decide) ?_
  refine lv_icmp_ge (tgt := 142) hx hb dc_cp_120 (by decide) (fun g => absurd g (by decide)) (fun _ => ?_)
  refine lv_aload_n hx hb dc_cp_123 rfl (lv_at hl 1 rfl) ?_
  refine va_get hx hb hts (cl_ok 7 _ rfl).1 hown hK hP 0 rfl rfl 7 (by decide) (hts _ kc_cp_f52) (fun _ h => h) rfl dc_cp_124 ?_
  refine lv_iload_n hx hb dc_cp_127 rfl (lv_at hl 0 rfl) ?_
  refine va_new (ci := 3) (fs := [.null, .int 0, .int 0]) (C := RX3) (T := TX3) (N := 3) hx hb hts (cl_ok 3 _ rfl).1 tyX3 tyX3_ok hown (hts _ kc_cp_cl50) (hts _ kc_cp_itX3) (hts _ kc_cp_iiX3) hK hP hD hS hA rfl (fun j hj => by rcases (show j = 0 ∨ j = 1 ∨ j = 2 by omega) with rfl | rfl | rfl <;> rfl) (Nat.le_of_ble_eq_true rfl) (Nat.le_of_ble_eq_true rfl) dc_cp_128 (fun s3 H hP hD hS => ?_)
  refine lv_dup hx hb dc_cp_131 rfl ?_
  refine mk_back (x := (s3, .inr (3, [.null, .int 0, .int 0]))) (va_runIN (Ts := GW) (As := []) (rest := [.ref s3, .int 3, .ref ss]) ⟨hx, hb, hml, hown, hts⟩ (n_sheet (cT := cT) (dC := dC) (dI := dI) l s3 H.size) ⟨va_cnB (Ts := GW) (ws' := GW) (host := "CellPacks") 0 hts (gwc kc_cp_kcX3) rfl rfl rfl (hWK.2.1 _ kc_cp_ml56) (hts _ kc_cp_iiX3) ⟨by decide +kernel, by decide +kernel, by decide +kernel⟩ ⟨Nat.le_of_ble_eq_true rfl, Nat.le_of_ble_eq_true rfl⟩, rfl, hts _ kc_cp_imX3⟩ ⟨PcN_blind _ _ _, fun U hU hW => ⟨rfl, hWK.go hW, by rw [hU], by rw [hU]; exact hP.last, hD.last.weaken (fun _ _ _ _ => trivial)⟩⟩ rfl rfl hl.1 rfl (lv_room (Nat.le_of_ble_eq_true rfl)) dc_cp_132 ⟨Nat.le_of_ble_eq_true rfl, Nat.le_of_ble_eq_true rfl⟩) hP hD hS hA (fun w H locs hG hP hD hS => ?_)
  obtain ⟨u3, rfl⟩ := hG
  have hP := hP.fr2
  have hD := hD.fr2
  refine va_astq hx hb hK hP hD hS 1 4 2 3 rfl rfl rfl rfl (by unfold vp_in; decide) dc_cp_135 (fun H locs hP hD hS => ?_)
  obtain ⟨V13, hV13⟩ : ∃ V : va_W, V = wSh cT s3 u3 ++ V12 := ⟨_, rfl⟩
  have hP : va_P (dC, dI) vwCl ((h0, .inr (7, [.ref t0, .ref p0, .ref d0, .ref rd, .ref im, .ref kp, .ref wy, .ref ss, .int 0, .int 0])) :: (ss, .inl (cT 4, 4, .inr (.inr (.inr (.inr (va_up (va_up (va_up (va_up (fun _ => none) (0 : Int32).toNatClampNeg (some s0)) (1 : Int32).toNatClampNeg (some s1)) (2 : Int32).toNatClampNeg (some s2)) (3 : Int32).toNatClampNeg (some s3))))))) :: V13) H := by rw [hV13]; exact hP
  have hD : va_D (va_A [(h0, .inr (7, [.null, .null, .null, .null, .null, .null, .null, .null, .int 0, .int 0]))] s.heap.size) ((h0, .inr (7, [.ref t0, .ref p0, .ref d0, .ref rd, .ref im, .ref kp, .ref wy, .ref ss, .int 0, .int 0])) :: (ss, .inl (cT 4, 4, .inr (.inr (.inr (.inr (va_up (va_up (va_up (va_up (fun _ => none) (0 : Int32).toNatClampNeg (some s0)) (1 : Int32).toNatClampNeg (some s1)) (2 : Int32).toNatClampNeg (some s2)) (3 : Int32).toNatClampNeg (some s3))))))) :: V13) := by rw [hV13]; exact hD
  refine lv_iinc (v := 4) (lv' := [(1, .int 4), (0, .ref h0)]) hx hb dc_cp_136 hl (k := 0) rfl (by decide) (by decide) rfl (fun ls hl => ?_)
  refine lv_goto (tgt := 118) hx hb dc_cp_139 (by decide) ?_
  refine lv_iload_n hx hb dc_cp_118 rfl (lv_at hl 0 rfl) ?_
  refine lv_iconst (v := 4) hx hb dc_cp_119 (by decide) ?_
  refine lv_icmp_ge (tgt := 142) hx hb dc_cp_120 (by decide) (fun _ => ?_) (fun g => absurd (by decide) g)
  refine lv_aload_n hx hb dc_cp_142 rfl (lv_at hl 1 rfl) ?_
  refine lv_iconst (v := 0) hx hb dc_cp_143 (by decide) ?_
  refine va_put hx hb hts (cl_ok 7 _ rfl).1 tyX7 tyX7_ok nmX7 hown hK hP hD hS 0 rfl rfl 8 (by decide) (hts _ kc_cp_f57) (fun _ h => h) rfl rfl rfl rfl (Nat.le_of_ble_eq_true rfl) dc_cp_144 (fun H locs hP hD hS => ?_)
  have hP : va_P (dC, dI) vwCl ((h0, .inr (7, [.ref t0, .ref p0, .ref d0, .ref rd, .ref im, .ref kp, .ref wy, .ref ss, .int 0, .int 0])) :: (ss, .inl (cT 4, 4, .inr (.inr (.inr (.inr (va_up (va_up (va_up (va_up (fun _ => none) (0 : Int32).toNatClampNeg (some s0)) (1 : Int32).toNatClampNeg (some s1)) (2 : Int32).toNatClampNeg (some s2)) (3 : Int32).toNatClampNeg (some s3))))))) :: V13) H := hP
  have hD : va_D (va_A [(h0, .inr (7, [.null, .null, .null, .null, .null, .null, .null, .null, .int 0, .int 0]))] s.heap.size) ((h0, .inr (7, [.ref t0, .ref p0, .ref d0, .ref rd, .ref im, .ref kp, .ref wy, .ref ss, .int 0, .int 0])) :: (ss, .inl (cT 4, 4, .inr (.inr (.inr (.inr (va_up (va_up (va_up (va_up (fun _ => none) (0 : Int32).toNatClampNeg (some s0)) (1 : Int32).toNatClampNeg (some s1)) (2 : Int32).toNatClampNeg (some s2)) (3 : Int32).toNatClampNeg (some s3))))))) :: V13) := hD
  refine lv_aload_n hx hb dc_cp_147 rfl (lv_at hl 1 rfl) ?_
  refine lv_iconst (v := 0) hx hb dc_cp_148 (by decide) ?_
  refine va_put hx hb hts (cl_ok 7 _ rfl).1 tyX7 tyX7_ok nmX7 hown hK hP hD hS 0 rfl rfl 9 (by decide) (hts _ kc_cp_f61) (fun _ h => h) rfl rfl rfl rfl (Nat.le_of_ble_eq_true rfl) dc_cp_149 (fun H locs hP hD hS => ?_)
  have hP : va_P (dC, dI) vwCl ((h0, .inr (7, [.ref t0, .ref p0, .ref d0, .ref rd, .ref im, .ref kp, .ref wy, .ref ss, .int 0, .int 0])) :: (ss, .inl (cT 4, 4, .inr (.inr (.inr (.inr (va_up (va_up (va_up (va_up (fun _ => none) (0 : Int32).toNatClampNeg (some s0)) (1 : Int32).toNatClampNeg (some s1)) (2 : Int32).toNatClampNeg (some s2)) (3 : Int32).toNatClampNeg (some s3))))))) :: V13) H := hP
  have hD : va_D (va_A [(h0, .inr (7, [.null, .null, .null, .null, .null, .null, .null, .null, .int 0, .int 0]))] s.heap.size) ((h0, .inr (7, [.ref t0, .ref p0, .ref d0, .ref rd, .ref im, .ref kp, .ref wy, .ref ss, .int 0, .int 0])) :: (ss, .inl (cT 4, 4, .inr (.inr (.inr (.inr (va_up (va_up (va_up (va_up (fun _ => none) (0 : Int32).toNatClampNeg (some s0)) (1 : Int32).toNatClampNeg (some s1)) (2 : Int32).toNatClampNeg (some s2)) (3 : Int32).toNatClampNeg (some s3))))))) :: V13) := hD
  subst hV13
  subst hV12
  subst hV11
  subst hV10
  subst hV9
  subst hV8
  subst hV7
  subst hV6
  subst hV5
  subst hV4
  subst hV3
  subst hV2
  subst hV1
  have hG := g7 cT (va_up (va_up (fun _ => none) (0 : Int32).toNatClampNeg (some x0)) (1 : Int32).toNatClampNeg (some y0)) (va_up (va_up (va_up (va_up (fun _ => none) (0 : Int32).toNatClampNeg (some s0)) (1 : Int32).toNatClampNeg (some s1)) (2 : Int32).toNatClampNeg (some s2)) (3 : Int32).toNatClampNeg (some s3)) r1 r2 h0 im ss t0 b0 p0 p1 p2 p3 p4 d0 d1 d2 d3 d4 rd x0 x1 x2 x3 x4 y0 y1 y2 y3 y4 kp wy wa wb wc df o1 o2 g0 lg e0 e1 e2 e3 s0 u0 s1 u1 s2 u2 s3 u3 (upX x0 y0) (upS s0 s1 s2 s3)
  refine W.widen (k := 79) (n := 914) (Nat.le_of_ble_eq_true rfl) (Nat.le_of_ble_eq_true rfl) ?_
  exact W.vret hx hb hr (fun t ht _ => ⟨⟨rfl, _, hG, by rw [ht]; exact hP, hD⟩, hS.F ht⟩) hS.2.2 dc_cp_152 hlocks
end CTORS
