/-! the constructor of the class -/
abbrev w7 (cT : Nat → ClassId) (Fi Fs : Nat → Option Nat) (r1 r2 : Nat → Nat) (h0 im ss t0 b0 p0 p1 p2 p3 p4 d0 d1 d2 d3 d4 rd x0 x1 x2 x3 x4 y0 y1 y2 y3 y4 kp wy wa wb wc df o1 o2 g0 lg e0 e1 e2 e3 s0 u0 s1 u1 s2 u2 s3 u3 : Nat) : va_W := (h0, .inr (7, [.ref t0, .ref p0, .ref d0, .ref rd, .ref im, .ref kp, .ref wy, .ref ss, .int 0, .int 0])) :: (im, .inl (cT 3, 2, .inr (.inr (.inr (.inr Fi))))) :: (ss, .inl (cT 4, 4, .inr (.inr (.inr (.inr Fs))))) :: (wTape cT t0 b0 ++ (wPk cT p0 p1 p2 p3 p4 ++ (wPk cT d0 d1 d2 d3 d4 ++ (wRd rd t0 d0 ++ (wPk cT x0 x1 x2 x3 x4 ++ (wPk cT y0 y1 y2 y3 y4 ++ ((kp, zA (cT 2) 2) :: (wWy cT wy wa wb wc df o1 o2 r1 r2 g0 lg e0 e1 e2 e3 ++ (wSh cT s0 u0 ++ (wSh cT s1 u1 ++ (wSh cT s2 u2 ++ wSh cT s3 u3)))))))))))
def pk0 : Int → Int := fun j => if j = 5 then 2 else if j = 7 then 10 else if j = 8 then 5 else 0
def rd0 : Int → Int := fun j => if j = 4 then 3 else 0
def df0 : Int → Int := fun j => if j = 6 then 2 else 0
def sh0 : Int → Int := fun j => if j = 1 then -1 else 0
/-- the numbers at first -/
def M0 : Mem := fun c => if c = 3 ∨ c = 8 ∨ c = 13 ∨ c = 18 then pk0 else if c = 23 then rd0 else if c = 30 then df0 else if c = 72 ∨ c = 74 ∨ c = 76 ∨ c = 78 then sh0 else fun _ => 0
def POS : List Nat := [0, 3, 4, 5, 6, 7, 8, 9, 10, 11, 12, 13, 14, 16, 17, 18, 19, 20, 21, 22, 23, 24, 25, 15, 1, 26, 27, 28, 29, 30, 31, 32, 34, 35, 36, 37, 38, 39, 40, 41, 42, 43, 44, 45, 46, 47, 48, 49, 33, 50, 51, 52, 53, 54, 55, 56, 57, 58, 59, 60, 61, 62, 63, 64, 65, 66, 67, 68, 69, 70, 71, 2, 72, 73, 74, 75, 76, 77, 78, 79]
/-- the world of the class, by the cells' numbers -/
def G7 (cT : Nat → ClassId) (h0 : Nat) (w : va_W) : Prop := ∃ ad : Nat → Nat, ad 0 = h0 ∧ ∀ i, i < 80 → ∃ sh, shp i = some sh ∧ w[POS.getD i 0]? = some (ad i, cellOf ad cT (M0 i) sh)
theorem rowF_32 (ad : Nat → Nat) (j : Nat) : (if j < 16 then some (ad (32 + j)) else none) = (([32, 33, 34, 35, 36, 37, 38, 39, 40, 41, 42, 43, 44, 45, 46, 47] : List Nat)[j]?).map ad := by
  match j with
  | 0 => rfl
  | 1 => rfl
  | 2 => rfl
  | 3 => rfl
  | 4 => rfl
  | 5 => rfl
  | 6 => rfl
  | 7 => rfl
  | 8 => rfl
  | 9 => rfl
  | 10 => rfl
  | 11 => rfl
  | 12 => rfl
  | 13 => rfl
  | 14 => rfl
  | 15 => rfl
  | n + 16 =>
    rw [if_neg (by omega), List.getElem?_eq_none (by show 16 ≤ n + 16; omega)]
    rfl
theorem rowF_49 (ad : Nat → Nat) (j : Nat) : (if j < 16 then some (ad (49 + j)) else none) = (([49, 50, 51, 52, 53, 54, 55, 56, 57, 58, 59, 60, 61, 62, 63, 64] : List Nat)[j]?).map ad := by
  match j with
  | 0 => rfl
  | 1 => rfl
  | 2 => rfl
  | 3 => rfl
  | 4 => rfl
  | 5 => rfl
  | 6 => rfl
  | 7 => rfl
  | 8 => rfl
  | 9 => rfl
  | 10 => rfl
  | 11 => rfl
  | 12 => rfl
  | 13 => rfl
  | 14 => rfl
  | 15 => rfl
  | n + 16 =>
    rw [if_neg (by omega), List.getElem?_eq_none (by show 16 ≤ n + 16; omega)]
    rfl
abbrev wA (cT : Nat → ClassId) (ad : Nat → Nat) : va_W := w7 cT (fun j => (([13, 18] : List Nat)[j]?).map ad) (fun j => (([72, 74, 76, 78] : List Nat)[j]?).map ad) (fun k => ad (32 + k)) (fun k => ad (49 + k)) (ad 0) (ad 24) (ad 71) (ad 1) (ad 2) (ad 3) (ad 4) (ad 5) (ad 6) (ad 7) (ad 8) (ad 9) (ad 10) (ad 11) (ad 12) (ad 23) (ad 13) (ad 14) (ad 15) (ad 16) (ad 17) (ad 18) (ad 19) (ad 20) (ad 21) (ad 22) (ad 25) (ad 26) (ad 27) (ad 28) (ad 29) (ad 30) (ad 31) (ad 48) (ad 65) (ad 66) (ad 67) (ad 68) (ad 69) (ad 70) (ad 72) (ad 73) (ad 74) (ad 75) (ad 76) (ad 77) (ad 78) (ad 79)
set_option maxHeartbeats 4000000 in
set_option maxRecDepth 20000 in
theorem g7_0 (cT : Nat → ClassId) (ad : Nat → Nat) : ∀ i, 0 ≤ i → i < 8 → ∃ sh, shp i = some sh ∧ (wA cT ad)[POS.getD i 0]? = some (ad i, cellOf ad cT (M0 i) sh) := by
  intro i h0 h1
  rcases (show i = 0 ∨ i = 1 ∨ i = 2 ∨ i = 3 ∨ i = 4 ∨ i = 5 ∨ i = 6 ∨ i = 7 by omega) with rfl | rfl | rfl | rfl | rfl | rfl | rfl | rfl
  · exact ⟨_, rfl, rfl⟩
  · exact ⟨_, rfl, rfl⟩
  · exact ⟨_, rfl, rfl⟩
  · exact ⟨_, rfl, rfl⟩
  · exact ⟨_, rfl, rfl⟩
  · exact ⟨_, rfl, rfl⟩
  · exact ⟨_, rfl, rfl⟩
  · exact ⟨_, rfl, rfl⟩
set_option maxHeartbeats 4000000 in
set_option maxRecDepth 20000 in
theorem g7_8 (cT : Nat → ClassId) (ad : Nat → Nat) : ∀ i, 8 ≤ i → i < 16 → ∃ sh, shp i = some sh ∧ (wA cT ad)[POS.getD i 0]? = some (ad i, cellOf ad cT (M0 i) sh) := by
  intro i h0 h1
  rcases (show i = 8 ∨ i = 9 ∨ i = 10 ∨ i = 11 ∨ i = 12 ∨ i = 13 ∨ i = 14 ∨ i = 15 by omega) with rfl | rfl | rfl | rfl | rfl | rfl | rfl | rfl
  · exact ⟨_, rfl, rfl⟩
  · exact ⟨_, rfl, rfl⟩
  · exact ⟨_, rfl, rfl⟩
  · exact ⟨_, rfl, rfl⟩
  · exact ⟨_, rfl, rfl⟩
  · exact ⟨_, rfl, rfl⟩
  · exact ⟨_, rfl, rfl⟩
  · exact ⟨_, rfl, rfl⟩
set_option maxHeartbeats 4000000 in
set_option maxRecDepth 20000 in
theorem g7_16 (cT : Nat → ClassId) (ad : Nat → Nat) : ∀ i, 16 ≤ i → i < 24 → ∃ sh, shp i = some sh ∧ (wA cT ad)[POS.getD i 0]? = some (ad i, cellOf ad cT (M0 i) sh) := by
  intro i h0 h1
  rcases (show i = 16 ∨ i = 17 ∨ i = 18 ∨ i = 19 ∨ i = 20 ∨ i = 21 ∨ i = 22 ∨ i = 23 by omega) with rfl | rfl | rfl | rfl | rfl | rfl | rfl | rfl
  · exact ⟨_, rfl, rfl⟩
  · exact ⟨_, rfl, rfl⟩
  · exact ⟨_, rfl, rfl⟩
  · exact ⟨_, rfl, rfl⟩
  · exact ⟨_, rfl, rfl⟩
  · exact ⟨_, rfl, rfl⟩
  · exact ⟨_, rfl, rfl⟩
  · exact ⟨_, rfl, rfl⟩
set_option maxHeartbeats 4000000 in
set_option maxRecDepth 20000 in
theorem g7_24 (cT : Nat → ClassId) (ad : Nat → Nat) : ∀ i, 24 ≤ i → i < 32 → ∃ sh, shp i = some sh ∧ (wA cT ad)[POS.getD i 0]? = some (ad i, cellOf ad cT (M0 i) sh) := by
  intro i h0 h1
  rcases (show i = 24 ∨ i = 25 ∨ i = 26 ∨ i = 27 ∨ i = 28 ∨ i = 29 ∨ i = 30 ∨ i = 31 by omega) with rfl | rfl | rfl | rfl | rfl | rfl | rfl | rfl
  · exact ⟨_, rfl, rfl⟩
  · exact ⟨_, rfl, rfl⟩
  · exact ⟨_, rfl, rfl⟩
  · exact ⟨_, rfl, rfl⟩
  · exact ⟨_, rfl, rfl⟩
  · exact ⟨_, rfl, rfl⟩
  · exact ⟨_, rfl, rfl⟩
  · exact ⟨_, rfl, congrArg (fun f => some ((ad 31, Sum.inl (cT 5, 16, Sum.inr (Sum.inr (Sum.inr (Sum.inr f))))) : Nat × va_E)) (funext fun j => rowF_32 ad j)⟩
set_option maxHeartbeats 4000000 in
set_option maxRecDepth 20000 in
theorem g7_32 (cT : Nat → ClassId) (ad : Nat → Nat) : ∀ i, 32 ≤ i → i < 40 → ∃ sh, shp i = some sh ∧ (wA cT ad)[POS.getD i 0]? = some (ad i, cellOf ad cT (M0 i) sh) := by
  intro i h0 h1
  rcases (show i = 32 ∨ i = 33 ∨ i = 34 ∨ i = 35 ∨ i = 36 ∨ i = 37 ∨ i = 38 ∨ i = 39 by omega) with rfl | rfl | rfl | rfl | rfl | rfl | rfl | rfl
  · exact ⟨_, rfl, rfl⟩
  · exact ⟨_, rfl, rfl⟩
  · exact ⟨_, rfl, rfl⟩
  · exact ⟨_, rfl, rfl⟩
  · exact ⟨_, rfl, rfl⟩
  · exact ⟨_, rfl, rfl⟩
  · exact ⟨_, rfl, rfl⟩
  · exact ⟨_, rfl, rfl⟩
set_option maxHeartbeats 4000000 in
set_option maxRecDepth 20000 in
theorem g7_40 (cT : Nat → ClassId) (ad : Nat → Nat) : ∀ i, 40 ≤ i → i < 48 → ∃ sh, shp i = some sh ∧ (wA cT ad)[POS.getD i 0]? = some (ad i, cellOf ad cT (M0 i) sh) := by
  intro i h0 h1
  rcases (show i = 40 ∨ i = 41 ∨ i = 42 ∨ i = 43 ∨ i = 44 ∨ i = 45 ∨ i = 46 ∨ i = 47 by omega) with rfl | rfl | rfl | rfl | rfl | rfl | rfl | rfl
  · exact ⟨_, rfl, rfl⟩
  · exact ⟨_, rfl, rfl⟩
  · exact ⟨_, rfl, rfl⟩
  · exact ⟨_, rfl, rfl⟩
  · exact ⟨_, rfl, rfl⟩
  · exact ⟨_, rfl, rfl⟩
  · exact ⟨_, rfl, rfl⟩
  · exact ⟨_, rfl, rfl⟩
set_option maxHeartbeats 4000000 in
set_option maxRecDepth 20000 in
theorem g7_48 (cT : Nat → ClassId) (ad : Nat → Nat) : ∀ i, 48 ≤ i → i < 56 → ∃ sh, shp i = some sh ∧ (wA cT ad)[POS.getD i 0]? = some (ad i, cellOf ad cT (M0 i) sh) := by
  intro i h0 h1
  rcases (show i = 48 ∨ i = 49 ∨ i = 50 ∨ i = 51 ∨ i = 52 ∨ i = 53 ∨ i = 54 ∨ i = 55 by omega) with rfl | rfl | rfl | rfl | rfl | rfl | rfl | rfl
  · exact ⟨_, rfl, congrArg (fun f => some ((ad 48, Sum.inl (cT 5, 16, Sum.inr (Sum.inr (Sum.inr (Sum.inr f))))) : Nat × va_E)) (funext fun j => rowF_49 ad j)⟩
  · exact ⟨_, rfl, rfl⟩
  · exact ⟨_, rfl, rfl⟩
  · exact ⟨_, rfl, rfl⟩
  · exact ⟨_, rfl, rfl⟩
  · exact ⟨_, rfl, rfl⟩
  · exact ⟨_, rfl, rfl⟩
  · exact ⟨_, rfl, rfl⟩
set_option maxHeartbeats 4000000 in
set_option maxRecDepth 20000 in
theorem g7_56 (cT : Nat → ClassId) (ad : Nat → Nat) : ∀ i, 56 ≤ i → i < 64 → ∃ sh, shp i = some sh ∧ (wA cT ad)[POS.getD i 0]? = some (ad i, cellOf ad cT (M0 i) sh) := by
  intro i h0 h1
  rcases (show i = 56 ∨ i = 57 ∨ i = 58 ∨ i = 59 ∨ i = 60 ∨ i = 61 ∨ i = 62 ∨ i = 63 by omega) with rfl | rfl | rfl | rfl | rfl | rfl | rfl | rfl
  · exact ⟨_, rfl, rfl⟩
  · exact ⟨_, rfl, rfl⟩
  · exact ⟨_, rfl, rfl⟩
  · exact ⟨_, rfl, rfl⟩
  · exact ⟨_, rfl, rfl⟩
  · exact ⟨_, rfl, rfl⟩
  · exact ⟨_, rfl, rfl⟩
  · exact ⟨_, rfl, rfl⟩
set_option maxHeartbeats 4000000 in
set_option maxRecDepth 20000 in
theorem g7_64 (cT : Nat → ClassId) (ad : Nat → Nat) : ∀ i, 64 ≤ i → i < 72 → ∃ sh, shp i = some sh ∧ (wA cT ad)[POS.getD i 0]? = some (ad i, cellOf ad cT (M0 i) sh) := by
  intro i h0 h1
  rcases (show i = 64 ∨ i = 65 ∨ i = 66 ∨ i = 67 ∨ i = 68 ∨ i = 69 ∨ i = 70 ∨ i = 71 by omega) with rfl | rfl | rfl | rfl | rfl | rfl | rfl | rfl
  · exact ⟨_, rfl, rfl⟩
  · exact ⟨_, rfl, rfl⟩
  · exact ⟨_, rfl, rfl⟩
  · exact ⟨_, rfl, rfl⟩
  · exact ⟨_, rfl, rfl⟩
  · exact ⟨_, rfl, rfl⟩
  · exact ⟨_, rfl, rfl⟩
  · exact ⟨_, rfl, rfl⟩
set_option maxHeartbeats 4000000 in
set_option maxRecDepth 20000 in
theorem g7_72 (cT : Nat → ClassId) (ad : Nat → Nat) : ∀ i, 72 ≤ i → i < 80 → ∃ sh, shp i = some sh ∧ (wA cT ad)[POS.getD i 0]? = some (ad i, cellOf ad cT (M0 i) sh) := by
  intro i h0 h1
  rcases (show i = 72 ∨ i = 73 ∨ i = 74 ∨ i = 75 ∨ i = 76 ∨ i = 77 ∨ i = 78 ∨ i = 79 by omega) with rfl | rfl | rfl | rfl | rfl | rfl | rfl | rfl
  · exact ⟨_, rfl, rfl⟩
  · exact ⟨_, rfl, rfl⟩
  · exact ⟨_, rfl, rfl⟩
  · exact ⟨_, rfl, rfl⟩
  · exact ⟨_, rfl, rfl⟩
  · exact ⟨_, rfl, rfl⟩
  · exact ⟨_, rfl, rfl⟩
  · exact ⟨_, rfl, rfl⟩
