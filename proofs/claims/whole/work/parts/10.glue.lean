section AWG
variable {p : Program} {l : Launch} {e : Env} {R : Room} {s : State} {m : MethodId} {args : Array Value} {below : List Frame} {meth : Method} {c : Code} {Q : State → Prop} {cells slots : Nat}
variable {G : Gv} {cc : ByteArray} {nL : Nat} {own : String} {pc : Nat} {lv : List (Option Value)} {st : List Value} {sh : Shp} {ν : Cnt} {σ : Sto}
theorem st_nmi {x y : Int32} (he : x = y) (k : AW p l e R s m args below meth c Q cells slots G nL pc lv (.int y :: st) sh ν σ) : AW p l e R s m args below meth c Q cells slots G nL pc lv (.int x :: st) sh ν σ := by subst he; exact k
theorem st_nml {x y : Int64} (he : x = y) (k : AW p l e R s m args below meth c Q cells slots G nL pc lv (.long y :: st) sh ν σ) : AW p l e R s m args below meth c Q cells slots G nL pc lv (.long x :: st) sh ν σ := by subst he; exact k
end AWG
theorem ii_1 (x : Int32) : x + Int32.ofInt (1) = x + 1 := by rw [show Int32.ofInt (1) = 1 from by decide]
theorem ii_m1 (x : Int32) : x + Int32.ofInt (-1) = x + (-1) := by rw [show Int32.ofInt (-1) = (-1) from by decide]
theorem ii_m8 (x : Int32) : x + Int32.ofInt (-8) = x + (-8) := by rw [show Int32.ofInt (-8) = (-8) from by decide]
theorem ib_lt {i : Int32} {n : Nat} (h : ib i n) : ix i < n := Nat.lt_of_not_le (fun q => h (Or.inr q))
theorem tsw_0_2 {x : Int32} (q0 : ¬ x = 0) (q1 : ¬ x = 1) (q2 : ¬ x = 2) : x.toInt < 0 ∨ 2 < x.toInt := tab_out (lo := 0) (n := 3) (fun j hj => match j, hj with
  | 0, _ => fun e => q0 (Int32.toInt_inj.mp (e.trans (by decide)))
  | 1, _ => fun e => q1 (Int32.toInt_inj.mp (e.trans (by decide)))
  | 2, _ => fun e => q2 (Int32.toInt_inj.mp (e.trans (by decide)))
  | j + 3, hj => absurd hj (by omega))
theorem tsw_0_4 {x : Int32} (q0 : ¬ x = 0) (q1 : ¬ x = 1) (q2 : ¬ x = 2) (q3 : ¬ x = 3) (q4 : ¬ x = 4) : x.toInt < 0 ∨ 4 < x.toInt := tab_out (lo := 0) (n := 5) (fun j hj => match j, hj with
  | 0, _ => fun e => q0 (Int32.toInt_inj.mp (e.trans (by decide)))
  | 1, _ => fun e => q1 (Int32.toInt_inj.mp (e.trans (by decide)))
  | 2, _ => fun e => q2 (Int32.toInt_inj.mp (e.trans (by decide)))
  | 3, _ => fun e => q3 (Int32.toInt_inj.mp (e.trans (by decide)))
  | 4, _ => fun e => q4 (Int32.toInt_inj.mp (e.trans (by decide)))
  | j + 5, hj => absurd hj (by omega))
theorem tsw_0_7 {x : Int32} (q0 : ¬ x = 0) (q1 : ¬ x = 1) (q2 : ¬ x = 2) (q3 : ¬ x = 3) (q4 : ¬ x = 4) (q5 : ¬ x = 5) (q6 : ¬ x = 6) (q7 : ¬ x = 7) : x.toInt < 0 ∨ 7 < x.toInt := tab_out (lo := 0) (n := 8) (fun j hj => match j, hj with
  | 0, _ => fun e => q0 (Int32.toInt_inj.mp (e.trans (by decide)))
  | 1, _ => fun e => q1 (Int32.toInt_inj.mp (e.trans (by decide)))
  | 2, _ => fun e => q2 (Int32.toInt_inj.mp (e.trans (by decide)))
  | 3, _ => fun e => q3 (Int32.toInt_inj.mp (e.trans (by decide)))
  | 4, _ => fun e => q4 (Int32.toInt_inj.mp (e.trans (by decide)))
  | 5, _ => fun e => q5 (Int32.toInt_inj.mp (e.trans (by decide)))
  | 6, _ => fun e => q6 (Int32.toInt_inj.mp (e.trans (by decide)))
  | 7, _ => fun e => q7 (Int32.toInt_inj.mp (e.trans (by decide)))
  | j + 8, hj => absurd hj (by omega))
theorem tsw_0_11 {x : Int32} (q0 : ¬ x = 0) (q1 : ¬ x = 1) (q2 : ¬ x = 2) (q3 : ¬ x = 3) (q4 : ¬ x = 4) (q5 : ¬ x = 5) (q6 : ¬ x = 6) (q7 : ¬ x = 7) (q8 : ¬ x = 8) (q9 : ¬ x = 9) (q10 : ¬ x = 10) (q11 : ¬ x = 11) : x.toInt < 0 ∨ 11 < x.toInt := tab_out (lo := 0) (n := 12) (fun j hj => match j, hj with
  | 0, _ => fun e => q0 (Int32.toInt_inj.mp (e.trans (by decide)))
  | 1, _ => fun e => q1 (Int32.toInt_inj.mp (e.trans (by decide)))
  | 2, _ => fun e => q2 (Int32.toInt_inj.mp (e.trans (by decide)))
  | 3, _ => fun e => q3 (Int32.toInt_inj.mp (e.trans (by decide)))
  | 4, _ => fun e => q4 (Int32.toInt_inj.mp (e.trans (by decide)))
  | 5, _ => fun e => q5 (Int32.toInt_inj.mp (e.trans (by decide)))
  | 6, _ => fun e => q6 (Int32.toInt_inj.mp (e.trans (by decide)))
  | 7, _ => fun e => q7 (Int32.toInt_inj.mp (e.trans (by decide)))
  | 8, _ => fun e => q8 (Int32.toInt_inj.mp (e.trans (by decide)))
  | 9, _ => fun e => q9 (Int32.toInt_inj.mp (e.trans (by decide)))
  | 10, _ => fun e => q10 (Int32.toInt_inj.mp (e.trans (by decide)))
  | 11, _ => fun e => q11 (Int32.toInt_inj.mp (e.trans (by decide)))
  | j + 12, hj => absurd hj (by omega))
theorem tsw_1_5 {x : Int32} (q1 : ¬ x = 1) (q2 : ¬ x = 2) (q3 : ¬ x = 3) (q4 : ¬ x = 4) (q5 : ¬ x = 5) : x.toInt < 1 ∨ 5 < x.toInt := tab_out (lo := 1) (n := 5) (fun j hj => match j, hj with
  | 0, _ => fun e => q1 (Int32.toInt_inj.mp (e.trans (by decide)))
  | 1, _ => fun e => q2 (Int32.toInt_inj.mp (e.trans (by decide)))
  | 2, _ => fun e => q3 (Int32.toInt_inj.mp (e.trans (by decide)))
  | 3, _ => fun e => q4 (Int32.toInt_inj.mp (e.trans (by decide)))
  | 4, _ => fun e => q5 (Int32.toInt_inj.mp (e.trans (by decide)))
  | j + 5, hj => absurd hj (by omega))
