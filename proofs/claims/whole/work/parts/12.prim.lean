theorem pw_max1 : Cond.static Lib.Math.max.name ∈ GW := gw_at 572 (by decide +kernel) (by decide +kernel)
theorem pw_max2 : Cond.code Lib.Math.max.name Lib.Math.max.code 2 (some .int) ∈ GW := gw_at 573 (by decide +kernel) (by decide +kernel)
theorem pw_min1 : Cond.static Lib.Math.min.name ∈ GW := gw_at 569 (by decide +kernel) (by decide +kernel)
theorem pw_min2 : Cond.code Lib.Math.min.name Lib.Math.min.code 2 (some .int) ∈ GW := gw_at 570 (by decide +kernel) (by decide +kernel)
theorem pw_math : Cond.initialized "java/lang/Math" ∈ GW := gw_at 130 (by decide +kernel) (by decide +kernel)
theorem pw_sys : Cond.initialized "java/lang/System" ∈ GW := gw_at 128 (by decide +kernel) (by decide +kernel)
theorem pw_ac1 : Cond.static arraycopyName ∈ GW := gw_at 523 (by decide +kernel) (by decide +kernel)
theorem pw_ac2 : Cond.native arraycopyName ∈ GW := gw_at 524 (by decide +kernel) (by decide +kernel)
def prK (e : EN) : Bool := match e.2.1 with
  | .invokevirtual _ => Nat.blt e.2.2.2.1 1000 || Nat.ble 1003 e.2.2.2.1
  | .invokestatic _ => Nat.blt e.2.2.2.1 1003
  | _ => true
theorem prK_all : TBS.all (fun tb => tb.all prK) = true := by decide +kernel
theorem prK_at {y : Nat} {tb : List EN} (h : TBS[y]? = some tb) {e : EN} (he : e ∈ tb) : prK e = true := List.all_eq_true.mp (List.all_eq_true.mp prK_all _ (List.mem_of_getElem? h)) e he
