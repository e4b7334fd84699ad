/-! WORLDS: a fresh ledger, a fresh model -/
def xw (κ : K4) (a : Nat → Nat) : va_W :=
  [(a 0, .inr (7, [.ref (a 1), .ref (a 7), .ref (a 12), .ref (a 23), .ref (a 28), .ref (a 33), .ref (a 37), .ref (a 41), .int (-1), .int 0])),
   (a 1, .inr (0, [.ref (a 2), .ref (a 3), .ref (a 4), .ref (a 5), .ref (a 6), .int 0])),
   (a 2, .inl (κ.1, 4, .inl (fun _ => 1000))),
   (a 3, .inl (κ.1, 10, .inl (fun _ => 0))),
   (a 4, .inl (κ.1, 10, .inl (fun _ => 0))),
   (a 5, .inl (κ.1, 10, .inl (fun _ => 0))),
   (a 6, .inl (κ.2.2.1, 10, .inl (fun _ => 0))),
   (a 7, .inr (1, [.ref (a 8), .int 0, .int 0, .int 0])),
   (a 8, .inr (4, [.ref (a 9), .ref (a 10), .ref (a 11), .int 0])),
   (a 9, .inl (κ.1, 10, .inl (fun _ => 0))),
   (a 10, .inl (κ.2.1, 10, .inr (.inl (fun _ => 0)))),
   (a 11, .inl (κ.2.1, 10, .inr (.inl (fun _ => 0)))),
   (a 12, .inr (3, [.ref (a 13), .ref (a 14), .ref (a 15), .ref (a 16), .ref (a 17), .ref (a 18), .int 0, .ref (a 19), .ref (a 20), .ref (a 21), .ref (a 22), .int 0])),
   (a 13, .inl (κ.1, 60, .inl (fun _ => 0))),
   (a 14, .inl (κ.1, 60, .inl (fun _ => 0))),
   (a 15, .inl (κ.1, 60, .inl (fun _ => 0))),
   (a 16, .inl (κ.1, 60, .inl (fun _ => 0))),
   (a 17, .inl (κ.2.2.1, 60, .inl (fun _ => 0))),
   (a 18, .inl (κ.2.2.1, 60, .inl (fun _ => 0))),
   (a 19, .inl (κ.1, 600, .inl (fun _ => 0))),
   (a 20, .inl (κ.1, 600, .inl (fun _ => 0))),
   (a 21, .inl (κ.2.1, 600, .inr (.inl (fun _ => 0)))),
   (a 22, .inl (κ.2.1, 600, .inr (.inl (fun _ => 0)))),
   (a 23, .inr (2, [.ref (a 24), .ref (a 25), .ref (a 26), .ref (a 27), .int 0])),
   (a 24, .inl (κ.1, 20, .inl (fun _ => 0))),
   (a 25, .inl (κ.1, 20, .inl (fun _ => 0))),
   (a 26, .inl (κ.1, 20, .inl (fun _ => 0))),
   (a 27, .inl (κ.2.2.1, 20, .inl (fun _ => 0))),
   (a 28, .inr (5, [.ref (a 29), .ref (a 30), .ref (a 31), .ref (a 32), .int 0])),
   (a 29, .inl (κ.1, 40, .inl (fun _ => 0))),
   (a 30, .inl (κ.1, 40, .inl (fun _ => 0))),
   (a 31, .inl (κ.1, 40, .inl (fun _ => 0))),
   (a 32, .inl (κ.1, 40, .inl (fun _ => 0))),
   (a 33, .inr (6, [.ref (a 12), .ref (a 28), .ref (a 34), .ref (a 35), .ref (a 36)])),
   (a 34, .inl (κ.1, 600, .inl (fun _ => (-1)))),
   (a 35, .inl (κ.1, 40, .inl (fun _ => (-1)))),
   (a 36, .inl (κ.1, 40, .inl (fun _ => (-1)))),
   (a 37, .inr (6, [.ref (a 12), .ref (a 28), .ref (a 38), .ref (a 39), .ref (a 40)])),
   (a 38, .inl (κ.1, 600, .inl (fun _ => (-1)))),
   (a 39, .inl (κ.1, 40, .inl (fun _ => (-1)))),
   (a 40, .inl (κ.1, 40, .inl (fun _ => (-1)))),
   (a 41, .inr (4, [.ref (a 42), .ref (a 43), .ref (a 44), .int 0])),
   (a 42, .inl (κ.1, 10, .inl (fun _ => 0))),
   (a 43, .inl (κ.2.1, 10, .inr (.inl (fun _ => 0)))),
   (a 44, .inl (κ.2.1, 10, .inr (.inl (fun _ => 0))))]
theorem xw_0 (κ : K4) (a : Nat → Nat) : (xw κ a)[0]? = some (a 0, .inr (7, [.ref (a 1), .ref (a 7), .ref (a 12), .ref (a 23), .ref (a 28), .ref (a 33), .ref (a 37), .ref (a 41), .int (-1), .int 0])) := rfl
theorem xw_1 (κ : K4) (a : Nat → Nat) : (xw κ a)[1]? = some (a 1, .inr (0, [.ref (a 2), .ref (a 3), .ref (a 4), .ref (a 5), .ref (a 6), .int 0])) := rfl
theorem xw_2 (κ : K4) (a : Nat → Nat) : (xw κ a)[2]? = some (a 2, .inl (κ.1, 4, .inl (fun _ => 1000))) := rfl
theorem xw_3 (κ : K4) (a : Nat → Nat) : (xw κ a)[3]? = some (a 3, .inl (κ.1, 10, .inl (fun _ => 0))) := rfl
theorem xw_4 (κ : K4) (a : Nat → Nat) : (xw κ a)[4]? = some (a 4, .inl (κ.1, 10, .inl (fun _ => 0))) := rfl
theorem xw_5 (κ : K4) (a : Nat → Nat) : (xw κ a)[5]? = some (a 5, .inl (κ.1, 10, .inl (fun _ => 0))) := rfl
theorem xw_6 (κ : K4) (a : Nat → Nat) : (xw κ a)[6]? = some (a 6, .inl (κ.2.2.1, 10, .inl (fun _ => 0))) := rfl
theorem xw_7 (κ : K4) (a : Nat → Nat) : (xw κ a)[7]? = some (a 7, .inr (1, [.ref (a 8), .int 0, .int 0, .int 0])) := rfl
theorem xw_8 (κ : K4) (a : Nat → Nat) : (xw κ a)[8]? = some (a 8, .inr (4, [.ref (a 9), .ref (a 10), .ref (a 11), .int 0])) := rfl
theorem xw_9 (κ : K4) (a : Nat → Nat) : (xw κ a)[9]? = some (a 9, .inl (κ.1, 10, .inl (fun _ => 0))) := rfl
theorem xw_10 (κ : K4) (a : Nat → Nat) : (xw κ a)[10]? = some (a 10, .inl (κ.2.1, 10, .inr (.inl (fun _ => 0)))) := rfl
theorem xw_11 (κ : K4) (a : Nat → Nat) : (xw κ a)[11]? = some (a 11, .inl (κ.2.1, 10, .inr (.inl (fun _ => 0)))) := rfl
theorem xw_12 (κ : K4) (a : Nat → Nat) : (xw κ a)[12]? = some (a 12, .inr (3, [.ref (a 13), .ref (a 14), .ref (a 15), .ref (a 16), .ref (a 17), .ref (a 18), .int 0, .ref (a 19), .ref (a 20), .ref (a 21), .ref (a 22), .int 0])) := rfl
theorem xw_13 (κ : K4) (a : Nat → Nat) : (xw κ a)[13]? = some (a 13, .inl (κ.1, 60, .inl (fun _ => 0))) := rfl
theorem xw_14 (κ : K4) (a : Nat → Nat) : (xw κ a)[14]? = some (a 14, .inl (κ.1, 60, .inl (fun _ => 0))) := rfl
theorem xw_15 (κ : K4) (a : Nat → Nat) : (xw κ a)[15]? = some (a 15, .inl (κ.1, 60, .inl (fun _ => 0))) := rfl
theorem xw_16 (κ : K4) (a : Nat → Nat) : (xw κ a)[16]? = some (a 16, .inl (κ.1, 60, .inl (fun _ => 0))) := rfl
theorem xw_17 (κ : K4) (a : Nat → Nat) : (xw κ a)[17]? = some (a 17, .inl (κ.2.2.1, 60, .inl (fun _ => 0))) := rfl
theorem xw_18 (κ : K4) (a : Nat → Nat) : (xw κ a)[18]? = some (a 18, .inl (κ.2.2.1, 60, .inl (fun _ => 0))) := rfl
theorem xw_19 (κ : K4) (a : Nat → Nat) : (xw κ a)[19]? = some (a 19, .inl (κ.1, 600, .inl (fun _ => 0))) := rfl
theorem xw_20 (κ : K4) (a : Nat → Nat) : (xw κ a)[20]? = some (a 20, .inl (κ.1, 600, .inl (fun _ => 0))) := rfl
theorem xw_21 (κ : K4) (a : Nat → Nat) : (xw κ a)[21]? = some (a 21, .inl (κ.2.1, 600, .inr (.inl (fun _ => 0)))) := rfl
theorem xw_22 (κ : K4) (a : Nat → Nat) : (xw κ a)[22]? = some (a 22, .inl (κ.2.1, 600, .inr (.inl (fun _ => 0)))) := rfl
theorem xw_23 (κ : K4) (a : Nat → Nat) : (xw κ a)[23]? = some (a 23, .inr (2, [.ref (a 24), .ref (a 25), .ref (a 26), .ref (a 27), .int 0])) := rfl
theorem xw_24 (κ : K4) (a : Nat → Nat) : (xw κ a)[24]? = some (a 24, .inl (κ.1, 20, .inl (fun _ => 0))) := rfl
theorem xw_25 (κ : K4) (a : Nat → Nat) : (xw κ a)[25]? = some (a 25, .inl (κ.1, 20, .inl (fun _ => 0))) := rfl
theorem xw_26 (κ : K4) (a : Nat → Nat) : (xw κ a)[26]? = some (a 26, .inl (κ.1, 20, .inl (fun _ => 0))) := rfl
theorem xw_27 (κ : K4) (a : Nat → Nat) : (xw κ a)[27]? = some (a 27, .inl (κ.2.2.1, 20, .inl (fun _ => 0))) := rfl
theorem xw_28 (κ : K4) (a : Nat → Nat) : (xw κ a)[28]? = some (a 28, .inr (5, [.ref (a 29), .ref (a 30), .ref (a 31), .ref (a 32), .int 0])) := rfl
theorem xw_29 (κ : K4) (a : Nat → Nat) : (xw κ a)[29]? = some (a 29, .inl (κ.1, 40, .inl (fun _ => 0))) := rfl
theorem xw_30 (κ : K4) (a : Nat → Nat) : (xw κ a)[30]? = some (a 30, .inl (κ.1, 40, .inl (fun _ => 0))) := rfl
theorem xw_31 (κ : K4) (a : Nat → Nat) : (xw κ a)[31]? = some (a 31, .inl (κ.1, 40, .inl (fun _ => 0))) := rfl
theorem xw_32 (κ : K4) (a : Nat → Nat) : (xw κ a)[32]? = some (a 32, .inl (κ.1, 40, .inl (fun _ => 0))) := rfl
theorem xw_33 (κ : K4) (a : Nat → Nat) : (xw κ a)[33]? = some (a 33, .inr (6, [.ref (a 12), .ref (a 28), .ref (a 34), .ref (a 35), .ref (a 36)])) := rfl
theorem xw_34 (κ : K4) (a : Nat → Nat) : (xw κ a)[34]? = some (a 34, .inl (κ.1, 600, .inl (fun _ => (-1)))) := rfl
theorem xw_35 (κ : K4) (a : Nat → Nat) : (xw κ a)[35]? = some (a 35, .inl (κ.1, 40, .inl (fun _ => (-1)))) := rfl
theorem xw_36 (κ : K4) (a : Nat → Nat) : (xw κ a)[36]? = some (a 36, .inl (κ.1, 40, .inl (fun _ => (-1)))) := rfl
theorem xw_37 (κ : K4) (a : Nat → Nat) : (xw κ a)[37]? = some (a 37, .inr (6, [.ref (a 12), .ref (a 28), .ref (a 38), .ref (a 39), .ref (a 40)])) := rfl
theorem xw_38 (κ : K4) (a : Nat → Nat) : (xw κ a)[38]? = some (a 38, .inl (κ.1, 600, .inl (fun _ => (-1)))) := rfl
theorem xw_39 (κ : K4) (a : Nat → Nat) : (xw κ a)[39]? = some (a 39, .inl (κ.1, 40, .inl (fun _ => (-1)))) := rfl
theorem xw_40 (κ : K4) (a : Nat → Nat) : (xw κ a)[40]? = some (a 40, .inl (κ.1, 40, .inl (fun _ => (-1)))) := rfl
theorem xw_41 (κ : K4) (a : Nat → Nat) : (xw κ a)[41]? = some (a 41, .inr (4, [.ref (a 42), .ref (a 43), .ref (a 44), .int 0])) := rfl
theorem xw_42 (κ : K4) (a : Nat → Nat) : (xw κ a)[42]? = some (a 42, .inl (κ.1, 10, .inl (fun _ => 0))) := rfl
theorem xw_43 (κ : K4) (a : Nat → Nat) : (xw κ a)[43]? = some (a 43, .inl (κ.2.1, 10, .inr (.inl (fun _ => 0)))) := rfl
theorem xw_44 (κ : K4) (a : Nat → Nat) : (xw κ a)[44]? = some (a 44, .inl (κ.2.1, 10, .inr (.inl (fun _ => 0)))) := rfl
def mw (κ : K4) (b : Nat → Nat) (E0 : Nat) (th : Int32) : va_W :=
  [(b 0, .inr (9, [.int th, .ref (b 1), .ref (b 2), .ref (b 3), .ref (b 4), .ref (b 5), .ref (b 6), .ref (b 7), .null, .int 0, .int (-1), .int 0, .int 0, .int 0, .ref (b 8)])),
   (b 1, .inl (κ.1, 4, .inl (fun _ => 1000))),
   (b 2, .inr (10, [.int 0, .ref E0, .int 0])),
   (b 3, .inr (10, [.int 0, .ref E0, .int 0])),
   (b 4, .inr (10, [.int 0, .ref E0, .int 0])),
   (b 5, .inr (10, [.int 0, .ref E0, .int 0])),
   (b 6, .inr (10, [.int 0, .ref E0, .int 0])),
   (b 7, .inr (10, [.int 0, .ref E0, .int 0])),
   (b 8, .inr (10, [.int 0, .ref E0, .int 0]))]
