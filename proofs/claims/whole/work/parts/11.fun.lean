/-! what each method does to the state: by program out of the bytecode -/
def FU : Nat := 3000
def T_X0_startTallies_L2 (o : Nat) : Nat → Int32 → ST → Option ST
  | 0, _, _ => none
  | n + 1, v1, σ => if 5 ≤ v1 then pf σ o 17 0 (fun σ1 => pf σ1 o 18 ((-9)) (fun σ2 => some σ2)) else sd σ o 15 5 v1 0 (fun σ3 => sd σ3 o 16 5 v1 0 (fun σ4 => vl (v1 + 1) (fun x5 => T_X0_startTallies_L2 o n x5 σ4)))
def T_X0_startTallies (o : Nat) (σ : ST) : Option ST := T_X0_startTallies_L2 o FU 0 σ
def T_X0_copyFrom (o : Nat) (o0 : Nat) (σ : ST) : Option ST := gf σ o0 0 (fun x1 => pf σ o 0 x1 (fun σ2 => cp σ2 o0 1 6 o 1 6 6 (fun σ3 => cp σ3 o0 2 6 o 2 6 6 (fun σ4 => cp σ4 o0 3 6 o 3 6 6 (fun σ5 => cp σ5 o0 4 6 o 4 6 6 (fun σ6 => cp σ6 o0 5 6 o 5 6 6 (fun σ7 => cp σ7 o0 6 6 o 6 6 6 (fun σ8 => gf σ8 o0 7 (fun x9 => pf σ8 o 7 x9 (fun σ10 => cp σ10 o0 8 5 o 8 5 5 (fun σ11 => cp σ11 o0 9 5 o 9 5 5 (fun σ12 => cp σ12 o0 10 5 o 10 5 5 (fun σ13 => cp σ13 o0 11 5 o 11 5 5 (fun σ14 => cp σ14 o0 12 5 o 12 5 5 (fun σ15 => gf σ15 o0 13 (fun x16 => pf σ15 o 13 x16 (fun σ17 => gf σ17 o0 14 (fun x18 => pf σ17 o 14 x18 (fun σ19 => cV (T_X0_startTallies o σ19) (fun σ21 => some σ21))))))))))))))))))))
def T_X0_hasBag (o : Nat) (σ : ST) (a0 : Int32) : Option Int32 := if a0 < 0 then some 0 else gf σ o 0 (fun x1 => if x1 ≤ a0 then some 0 else some 1)
def T_X0_hasBearer (o : Nat) (σ : ST) (a0 : Int32) : Option Int32 := if a0 < 0 then some 0 else gf σ o 7 (fun x1 => if x1 ≤ a0 then some 0 else some 1)
def T_X0_addBag (o : Nat) (a0 : Int32) (a1 : Int32) (a2 : Int32) (σ : ST) : Option (Int32 × ST) := gf σ o 0 (fun x1 => if x1 < 6 then gf σ o 0 (fun x2 => sd σ o 1 6 x2 a0 (fun σ3 => gf σ3 o 0 (fun x4 => sd σ3 o 2 6 x4 a1 (fun σ5 => gf σ5 o 0 (fun x6 => sd σ5 o 3 6 x6 a2 (fun σ7 => gf σ7 o 0 (fun x8 => sd σ7 o 4 6 x8 ((-9)) (fun σ9 => gf σ9 o 0 (fun x10 => sd σ9 o 5 6 x10 0 (fun σ11 => gf σ11 o 0 (fun x12 => sd σ11 o 6 6 x12 ((-9)) (fun σ13 => gf σ13 o 0 (fun x14 => pf σ13 o 0 (x14 + 1) (fun σ15 => gf σ15 o 0 (fun x16 => some (x16 - 1, σ15)))))))))))))))) else some ((-9), σ))
def T_X0_addBearer (o : Nat) (a0 : Int32) (a1 : Int32) (a2 : Int32) (σ : ST) : Option (Int32 × ST) := gf σ o 7 (fun x1 => if x1 < 5 then gf σ o 7 (fun x2 => sd σ o 8 5 x2 a0 (fun σ3 => gf σ3 o 7 (fun x4 => sd σ3 o 9 5 x4 a1 (fun σ5 => gf σ5 o 7 (fun x6 => sd σ5 o 10 5 x6 a2 (fun σ7 => gf σ7 o 7 (fun x8 => sd σ7 o 11 5 x8 ((-9)) (fun σ9 => gf σ9 o 7 (fun x10 => sd σ9 o 12 5 x10 9 (fun σ11 => gf σ11 o 7 (fun x12 => pf σ11 o 7 (x12 + 1) (fun σ13 => gf σ13 o 7 (fun x14 => some (x14 - 1, σ13)))))))))))))) else some ((-9), σ))
def T_X0_hand_j70 (o : Nat) (v1 : Int32) (v2 : Int32) (σ : ST) : Option (Int32 × ST) := sd σ o 11 5 v2 v1 (fun σ1 => sd σ1 o 6 6 v1 v2 (fun σ2 => sd σ2 o 5 6 v1 0 (fun σ3 => some (1, σ3))))
def T_X0_hand_j44 (o : Nat) (v1 : Int32) (v2 : Int32) (σ : ST) : Option (Int32 × ST) := ld σ o 11 5 v2 (fun x1 => cV (T_X0_hasBag o σ x1) (fun x2 => if x2 = 0 then T_X0_hand_j70 o v1 v2 σ else ld σ o 11 5 v2 (fun x4 => sd σ o 6 6 x4 ((-9)) (fun σ5 => T_X0_hand_j70 o v1 v2 σ5))))
def T_X0_hand (o : Nat) (a0 : Int32) (a1 : Int32) (σ : ST) : Option (Int32 × ST) := cV (T_X0_hasBag o σ a0) (fun x1 => if x1 = 0 then some (0, σ) else cV (T_X0_hasBearer o σ a1) (fun x3 => if x3 = 0 then some (0, σ) else ld σ o 6 6 a0 (fun x5 => cV (T_X0_hasBearer o σ x5) (fun x6 => if x6 = 0 then T_X0_hand_j44 o a0 a1 σ else ld σ o 6 6 a0 (fun x8 => sd σ o 11 5 x8 ((-9)) (fun σ9 => T_X0_hand_j44 o a0 a1 σ9))))))
def T_X0_unfriend_j26 (o : Nat) (v1 : Int32) (σ : ST) : Option ST := sd σ o 4 6 v1 ((-9)) (fun σ1 => some σ1)
def T_X0_unfriend (o : Nat) (a0 : Int32) (σ : ST) : Option ST := ld σ o 4 6 a0 (fun x1 => cV (T_X0_hasBag o σ x1) (fun x2 => if x2 = 0 then T_X0_unfriend_j26 o a0 σ else ld σ o 4 6 a0 (fun x4 => sd σ o 4 6 x4 ((-9)) (fun σ5 => T_X0_unfriend_j26 o a0 σ5))))
def T_X0_befriend (o : Nat) (a0 : Int32) (a1 : Int32) (σ : ST) : Option (Int32 × ST) := cV (T_X0_hasBag o σ a0) (fun x1 => if x1 = 0 then some (0, σ) else cV (T_X0_hasBag o σ a1) (fun x3 => if x3 = 0 then some (0, σ) else cV (T_X0_unfriend o a0 σ) (fun σ6 => cV (T_X0_unfriend o a1 σ6) (fun σ8 => if a0 = a1 then some (1, σ8) else sd σ8 o 4 6 a0 a1 (fun σ9 => sd σ9 o 4 6 a1 a0 (fun σ10 => some (1, σ10)))))))
def T_X0_startKeeping (o : Nat) (a0 : Int32) (σ : ST) : Option ST := ld σ o 11 5 a0 (fun x1 => cV (T_X0_hasBag o σ x1) (fun x2 => if x2 = 0 then some σ else sd σ o 6 6 x1 a0 (fun σ4 => sd σ4 o 5 6 x1 0 (fun σ5 => some σ5))))
def T_X0_changeBags (o : Nat) (a0 : Int32) (a1 : Int32) (σ : ST) : Option ST := ld σ o 11 5 a0 (fun x1 => ld σ o 11 5 a1 (fun x2 => sd σ o 11 5 a0 x2 (fun σ3 => sd σ3 o 11 5 a1 x1 (fun σ4 => cV (T_X0_startKeeping o a0 σ4) (fun σ6 => cV (T_X0_startKeeping o a1 σ6) (fun σ8 => some σ8))))))
def T_X0_takeAllBags_L26 (o : Nat) : Nat → Int32 → ST → Option ST
  | 0, _, _ => none
  | n + 1, v1, σ => gf σ o 0 (fun x1 => if x1 ≤ v1 then some σ else sd σ o 6 6 v1 ((-9)) (fun σ2 => sd σ2 o 5 6 v1 0 (fun σ3 => vl (v1 + 1) (fun x4 => T_X0_takeAllBags_L26 o n x4 σ3))))
def T_X0_takeAllBags_L2 (o : Nat) : Nat → Int32 → ST → Option ST
  | 0, _, _ => none
  | n + 1, v1, σ => gf σ o 7 (fun x1 => if x1 ≤ v1 then T_X0_takeAllBags_L26 o FU 0 σ else sd σ o 11 5 v1 ((-9)) (fun σ2 => vl (v1 + 1) (fun x3 => T_X0_takeAllBags_L2 o n x3 σ2)))
def T_X0_takeAllBags (o : Nat) (σ : ST) : Option ST := T_X0_takeAllBags_L2 o FU 0 σ
def T_X0_keeperOfFriend (o : Nat) (σ : ST) (a0 : Int32) : Option Int32 := ld σ o 4 6 a0 (fun x1 => if x1 < 0 then some ((-9)) else gf σ o 0 (fun x2 => if x2 ≤ x1 then some ((-9)) else ld σ o 6 6 x1 (fun x3 => some x3)))
def T_X0_pullBy (o : Nat) (σ : ST) (a0 : Int32) (a1 : Int32) (a2 : Int32) : Option Int32 := ld σ o 1 6 a0 (fun x1 => if x1 = 1 then ld σ o 2 6 a0 (fun x8 => some (x8 + a1)) else if x1 = 2 then ld σ o 2 6 a0 (fun x7 => some (x7 + 4)) else if x1 = 3 then ld σ o 2 6 a0 (fun x6 => some (x6 / 2)) else if x1 = 4 then if a2 = 0 then ld σ o 2 6 a0 (fun x4 => some x4) else ld σ o 2 6 a0 (fun x5 => some (x5 + 2)) else if x1 = 5 then ld σ o 2 6 a0 (fun x3 => some (2 * (x3 + a1))) else ld σ o 2 6 a0 (fun x2 => some x2))
def T_X0_pullOf_j29 (o : Nat) (σ : ST) (s0 : Int32) (s1 : Int32) (s2 : Int32) : Option Int32 := cV (T_X0_pullBy o σ s2 s1 s0) (fun x1 => some x1)
def T_X0_pullOf (o : Nat) (σ : ST) (a0 : Int32) : Option Int32 := cV (T_X0_hasBag o σ a0) (fun x1 => if x1 = 0 then some ((-9)) else ld σ o 5 6 a0 (fun x3 => cV (T_X0_keeperOfFriend o σ a0) (fun x4 => if x4 < 0 then T_X0_pullOf_j29 o σ 0 x3 a0 else T_X0_pullOf_j29 o σ 1 x3 a0)))
def T_X0_plainPullOf (o : Nat) (σ : ST) (a0 : Int32) : Option Int32 := cV (T_X0_hasBag o σ a0) (fun x1 => if x1 = 0 then some ((-9)) else cV (T_X0_pullBy o σ a0 0 0) (fun x3 => some x3))
def T_X0_goalOf (o : Nat) (σ : ST) (a0 : Int32) (a1 : Int32) : Option Int32 := ld σ o 1 6 a0 (fun x1 => if x1 = 2 then gf σ o 13 (fun x12 => some ((x12 + 5) - (x12 + 5) / 10 * 10)) else if x1 = 3 then gf σ o 14 (fun x9 => if (x9 - x9 / 2 * 2) = 0 then ld σ o 3 6 a0 (fun x11 => some x11) else ld σ o 9 5 a1 (fun x10 => some x10)) else if x1 = 4 then cV (T_X0_keeperOfFriend o σ a0) (fun x3 => cV (T_X0_hasBearer o σ x3) (fun x5 => if x5 = 0 then ld σ o 3 6 a0 (fun x7 => some x7) else ld σ o 10 5 x3 (fun x8 => some x8))) else ld σ o 3 6 a0 (fun x2 => some x2))
def T_X0_paceOf (o : Nat) (σ : ST) (a0 : Int32) : Option Int32 := ld σ o 1 6 a0 (fun x1 => if x1 = 5 then some 2 else some 1)
def T_X0_isLed (o : Nat) (σ : ST) (a0 : Int32) : Option Int32 := ld σ o 11 5 a0 (fun x1 => cV (T_X0_hasBag o σ x1) (fun x2 => if x2 = 0 then some 0 else ld σ o 11 5 a0 (fun x4 => cV (T_X0_pullOf o σ x4) (fun x5 => ld σ o 8 5 a0 (fun x7 => if x5 ≤ x7 then some 0 else some 1)))))
def T_J9_floorMod_7cf53 (σ : ST) (a0 : Int32) (a1 : Int32) : Option Int32 := nz a1 (vl (a0 - a0 / a1 * a1) (fun x1 => if 0 ≤ (a0 ^^^ a1) then some x1 else if x1 = 0 then some x1 else some (x1 + a1)))
def T_J9_min_7cf53 (σ : ST) (a0 : Int32) (a1 : Int32) : Option Int32 := if a1 < a0 then some a1 else some a0
def T_X0_toward (σ : ST) (a0 : Int32) (a1 : Int32) (a2 : Int32) : Option Int32 := cV (T_J9_floorMod_7cf53 σ (a1 - a0) 10) (fun x1 => vl (10 - x1) (fun x3 => if x3 < x1 then cV (T_J9_min_7cf53 σ a2 x3) (fun x4 => cV (T_J9_floorMod_7cf53 σ (a0 - x4) 10) (fun x6 => some x6)) else cV (T_J9_min_7cf53 σ a2 x1) (fun x8 => cV (T_J9_floorMod_7cf53 σ (a0 + x8) 10) (fun x10 => some x10))))
def T_X2_placesApart (σ : ST) (a0 : Int32) (a1 : Int32) : Option Int32 := cV (T_J9_floorMod_7cf53 σ (a1 - a0) 10) (fun x1 => cV (T_J9_min_7cf53 σ x1 (10 - x1)) (fun x3 => some x3))
def T_J9_max_7cf53 (σ : ST) (a0 : Int32) (a1 : Int32) : Option Int32 := if a0 < a1 then some a1 else some a0
def T_X0_go_j123 (o : Nat) (v1 : Int32) (σ : ST) : Option ST := ld σ o 10 5 v1 (fun x1 => ld σ o 9 5 v1 (fun x2 => cV (T_X0_toward σ x1 x2 1) (fun x3 => sd σ o 10 5 v1 x3 (fun σ5 => ld σ5 o 12 5 v1 (fun x6 => cV (T_J9_min_7cf53 σ5 (x6 + 1) 9) (fun x7 => sd σ5 o 12 5 v1 x7 (fun σ9 => some σ9)))))))
def T_X0_go (o : Nat) (a0 : Int32) (σ : ST) : Option ST := ld σ o 12 5 a0 (fun x1 => if x1 = 0 then sd σ o 12 5 a0 3 (fun σ24 => ld σ24 o 16 5 a0 (fun x25 => sd σ24 o 16 5 a0 (x25 + 1) (fun σ26 => some σ26))) else gf σ o 18 (fun x2 => if a0 = x2 then T_X0_go_j123 o a0 σ else cV (T_X0_isLed o σ a0) (fun x3 => if x3 = 0 then T_X0_go_j123 o a0 σ else ld σ o 10 5 a0 (fun x5 => ld σ o 11 5 a0 (fun x6 => cV (T_X0_goalOf o σ x6 a0) (fun x7 => ld σ o 11 5 a0 (fun x9 => cV (T_X0_paceOf o σ x9) (fun x10 => cV (T_X0_toward σ x5 x7 x10) (fun x12 => sd σ o 10 5 a0 x12 (fun σ14 => ld σ14 o 12 5 a0 (fun x15 => ld σ14 o 10 5 a0 (fun x16 => cV (T_X2_placesApart σ14 x5 x16) (fun x17 => cV (T_J9_max_7cf53 σ14 0 (x15 - x17)) (fun x19 => sd σ14 o 12 5 a0 x19 (fun σ21 => ld σ21 o 15 5 a0 (fun x22 => sd σ21 o 15 5 a0 (x22 + 1) (fun σ23 => some σ23)))))))))))))))))
def T_X0_growHeld_L2 (o : Nat) : Nat → Int32 → ST → Option ST
  | 0, _, _ => none
  | n + 1, v1, σ => gf σ o 0 (fun x1 => if x1 ≤ v1 then some σ else ld σ o 6 6 v1 (fun x2 => if x2 < 0 then vl (v1 + 1) (fun x3 => T_X0_growHeld_L2 o n x3 σ) else ld σ o 5 6 v1 (fun x4 => cV (T_J9_min_7cf53 σ (x4 + 1) 99) (fun x5 => sd σ o 5 6 v1 x5 (fun σ7 => vl (v1 + 1) (fun x8 => T_X0_growHeld_L2 o n x8 σ7))))))
def T_X0_growHeld (o : Nat) (σ : ST) : Option ST := T_X0_growHeld_L2 o FU 0 σ
def T_X0_countSnaps_L2 (o : Nat) : Nat → Int32 → ST → Option ST
  | 0, _, _ => none
  | n + 1, v1, σ => gf σ o 7 (fun x1 => if x1 ≤ v1 then some σ else ld σ o 11 5 v1 (fun x2 => cV (T_X0_hasBag o σ x2) (fun x3 => if x3 = 0 then vl (v1 + 1) (fun x5 => T_X0_countSnaps_L2 o n x5 σ) else ld σ o 11 5 v1 (fun x6 => ld σ o 1 6 x6 (fun x7 => if x7 = 2 then ld σ o 10 5 v1 (fun x9 => gf σ o 13 (fun x10 => if x9 = x10 then gf σ o 17 (fun x12 => pf σ o 17 (x12 + 1) (fun σ13 => vl (v1 + 1) (fun x14 => T_X0_countSnaps_L2 o n x14 σ13))) else vl (v1 + 1) (fun x11 => T_X0_countSnaps_L2 o n x11 σ))) else vl (v1 + 1) (fun x8 => T_X0_countSnaps_L2 o n x8 σ))))))
def T_X0_countSnaps (o : Nat) (σ : ST) : Option ST := T_X0_countSnaps_L2 o FU 0 σ
def T_X0_goHours_L19 (o : Nat) (K2 : Int32 → Int32 → ST → Option ST) : Nat → Int32 → Int32 → Int32 → ST → Option ST
  | 0, _, _, _, _ => none
  | n + 1, v1, v2, v3, σ => gf σ o 7 (fun x1 => if x1 ≤ v3 then cV (T_X0_growHeld o σ) (fun σ3 => cV (T_X0_countSnaps o σ3) (fun σ5 => vl (v2 + 1) (fun x6 => K2 v1 x6 σ5))) else cV (T_X0_go o v3 σ) (fun σ8 => vl (v3 + 1) (fun x9 => T_X0_goHours_L19 o K2 n v1 v2 x9 σ8)))
def T_X0_goHours_L2 (o : Nat) : Nat → Int32 → Int32 → ST → Option ST
  | 0, _, _, _ => none
  | n + 1, v1, v2, σ => if v1 ≤ v2 then some σ else gf σ o 14 (fun x1 => pf σ o 14 (x1 + 1) (fun σ2 => T_X0_goHours_L19 o (fun v1 v2 s => T_X0_goHours_L2 o n v1 v2 s) FU v1 v2 0 σ2))
def T_X0_goHours (o : Nat) (a0 : Int32) (σ : ST) : Option ST := T_X0_goHours_L2 o FU a0 0 σ
def T_X0_aboveWill (o : Nat) (σ : ST) (a0 : Int32) : Option Int32 := ld σ o 11 5 a0 (fun x1 => cV (T_X0_pullOf o σ x1) (fun x2 => ld σ o 8 5 a0 (fun x4 => some (x2 - x4))))
def T_X0_leaderOf (o : Nat) (σ : ST) (a0 : Int32) (a1 : Int32) : Option Int32 := cV (T_X0_isLed o σ a0) (fun x1 => if x1 = 0 then cV (T_X0_isLed o σ a1) (fun x9 => if x9 = 0 then some ((-9)) else some a1) else cV (T_X0_isLed o σ a1) (fun x3 => if x3 = 0 then some a0 else cV (T_X0_aboveWill o σ a1) (fun x5 => cV (T_X0_aboveWill o σ a0) (fun x7 => if x5 ≤ x7 then some a0 else some a1))))
def T_X0_goArmInArm_j70 (o : Nat) (v1 : Int32) (v2 : Int32) (s0 : Int32) (σ : ST) : Option ST := sd σ o 10 5 v1 s0 (fun σ1 => sd σ1 o 10 5 v2 s0 (fun σ2 => some σ2))
def T_X0_goArmInArm (o : Nat) (a0 : Int32) (a1 : Int32) (σ : ST) : Option ST := gf σ o 14 (fun x1 => pf σ o 14 (x1 + 1) (fun σ2 => cV (T_X0_leaderOf o σ2 a0 a1) (fun x3 => if 0 ≤ x3 then ld σ2 o 10 5 a0 (fun x5 => ld σ2 o 11 5 x3 (fun x6 => cV (T_X0_goalOf o σ2 x6 x3) (fun x7 => ld σ2 o 11 5 x3 (fun x9 => cV (T_X0_paceOf o σ2 x9) (fun x10 => cV (T_X0_toward σ2 x5 x7 x10) (fun x12 => T_X0_goArmInArm_j70 o a0 a1 x12 σ2)))))) else ld σ2 o 10 5 a0 (fun x14 => ld σ2 o 9 5 a0 (fun x15 => cV (T_X0_toward σ2 x14 x15 1) (fun x16 => T_X0_goArmInArm_j70 o a0 a1 x16 σ2))))))
def T_X0_bagsHad_L4 (o : Nat) (σ : ST) : Nat → Int32 → Int32 → Option Int32
  | 0, _, _ => none
  | n + 1, v1, v2 => gf σ o 0 (fun x1 => if x1 ≤ v2 then some v1 else ld σ o 6 6 v2 (fun x2 => if x2 < 0 then vl (v2 + 1) (fun x3 => T_X0_bagsHad_L4 o σ n v1 x3) else vl (v1 + 1) (fun x4 => vl (v2 + 1) (fun x5 => T_X0_bagsHad_L4 o σ n x4 x5))))
def T_X0_bagsHad (o : Nat) (σ : ST) : Option Int32 := T_X0_bagsHad_L4 o σ FU 0 0
def T_X0_allBreath_L4 (o : Nat) (σ : ST) : Nat → Int32 → Int32 → Option Int32
  | 0, _, _ => none
  | n + 1, v1, v2 => gf σ o 7 (fun x1 => if x1 ≤ v2 then some v1 else ld σ o 12 5 v2 (fun x2 => vl (v1 + x2) (fun x3 => vl (v2 + 1) (fun x4 => T_X0_allBreath_L4 o σ n x3 x4))))
def T_X0_allBreath (o : Nat) (σ : ST) : Option Int32 := T_X0_allBreath_L4 o σ FU 0 0
def T_X0_ledOnes_L4 (o : Nat) (σ : ST) : Nat → Int32 → Int32 → Option Int32
  | 0, _, _ => none
  | n + 1, v1, v2 => gf σ o 7 (fun x1 => if x1 ≤ v2 then some v1 else cV (T_X0_isLed o σ v2) (fun x2 => if x2 = 0 then vl (v2 + 1) (fun x4 => T_X0_ledOnes_L4 o σ n v1 x4) else vl (v1 + 1) (fun x5 => vl (v2 + 1) (fun x6 => T_X0_ledOnes_L4 o σ n x5 x6))))
def T_X0_ledOnes (o : Nat) (σ : ST) : Option Int32 := T_X0_ledOnes_L4 o σ FU 0 0
def T_X0_allLedHours_L4 (o : Nat) (σ : ST) : Nat → Int32 → Int32 → Option Int32
  | 0, _, _ => none
  | n + 1, v1, v2 => gf σ o 7 (fun x1 => if x1 ≤ v2 then some v1 else ld σ o 15 5 v2 (fun x2 => vl (v1 + x2) (fun x3 => vl (v2 + 1) (fun x4 => T_X0_allLedHours_L4 o σ n x3 x4))))
def T_X0_allLedHours (o : Nat) (σ : ST) : Option Int32 := T_X0_allLedHours_L4 o σ FU 0 0
def T_X0_allAtOnePlace_L2 (o : Nat) (σ : ST) : Nat → Int32 → Option Int32
  | 0, _ => none
  | n + 1, v1 => gf σ o 7 (fun x1 => if x1 ≤ v1 then some 1 else ld σ o 10 5 v1 (fun x2 => ld σ o 10 5 0 (fun x3 => if x2 = x3 then vl (v1 + 1) (fun x4 => T_X0_allAtOnePlace_L2 o σ n x4) else some 0)))
def T_X0_allAtOnePlace (o : Nat) (σ : ST) : Option Int32 := T_X0_allAtOnePlace_L2 o σ FU 1
def T_X0_rankOfBearer_L4 (o : Nat) (σ : ST) : Nat → Int32 → Int32 → Int32 → Option Int32
  | 0, _, _, _ => none
  | n + 1, v1, v2, v3 => gf σ o 7 (fun x1 => if x1 ≤ v3 then some v2 else ld σ o 8 5 v3 (fun x2 => ld σ o 8 5 v1 (fun x3 => if x2 < x3 then vl (v2 + 1) (fun x4 => vl (v3 + 1) (fun x5 => T_X0_rankOfBearer_L4 o σ n v1 x4 x5)) else ld σ o 8 5 v3 (fun x6 => ld σ o 8 5 v1 (fun x7 => if x6 = x7 then if v1 ≤ v3 then vl (v3 + 1) (fun x9 => T_X0_rankOfBearer_L4 o σ n v1 v2 x9) else vl (v2 + 1) (fun x10 => vl (v3 + 1) (fun x11 => T_X0_rankOfBearer_L4 o σ n v1 x10 x11)) else vl (v3 + 1) (fun x8 => T_X0_rankOfBearer_L4 o σ n v1 v2 x8))))))
def T_X0_rankOfBearer (o : Nat) (σ : ST) (a0 : Int32) : Option Int32 := T_X0_rankOfBearer_L4 o σ FU a0 0 0
def T_X0_bearerRanked_L2 (o : Nat) (σ : ST) : Nat → Int32 → Int32 → Option Int32
  | 0, _, _ => none
  | n + 1, v1, v2 => gf σ o 7 (fun x1 => if x1 ≤ v2 then some ((-9)) else cV (T_X0_rankOfBearer o σ v2) (fun x2 => if x2 = v1 then some v2 else vl (v2 + 1) (fun x4 => T_X0_bearerRanked_L2 o σ n v1 x4)))
def T_X0_bearerRanked (o : Nat) (σ : ST) (a0 : Int32) : Option Int32 := T_X0_bearerRanked_L2 o σ FU a0 0
def T_J6_compare_7cf53 (σ : ST) (a0 : Int32) (a1 : Int32) : Option Int32 := if a1 ≤ a0 then if a0 = a1 then some 0 else some 1 else some ((-1))
def T_X0_rankOfBag_L4 (o : Nat) (σ : ST) : Nat → Int32 → Int32 → Int32 → Option Int32
  | 0, _, _, _ => none
  | n + 1, v1, v2, v3 => gf σ o 0 (fun x1 => if x1 ≤ v3 then some v2 else cV (T_X0_plainPullOf o σ v3) (fun x2 => cV (T_X0_plainPullOf o σ v1) (fun x4 => cV (T_J6_compare_7cf53 σ x2 x4) (fun x6 => if x6 < 0 then vl (v2 + 1) (fun x8 => vl (v3 + 1) (fun x9 => T_X0_rankOfBag_L4 o σ n v1 x8 x9)) else if x6 = 0 then if v1 ≤ v3 then vl (v3 + 1) (fun x11 => T_X0_rankOfBag_L4 o σ n v1 v2 x11) else vl (v2 + 1) (fun x12 => vl (v3 + 1) (fun x13 => T_X0_rankOfBag_L4 o σ n v1 x12 x13)) else vl (v3 + 1) (fun x10 => T_X0_rankOfBag_L4 o σ n v1 v2 x10)))))
def T_X0_rankOfBag (o : Nat) (σ : ST) (a0 : Int32) : Option Int32 := T_X0_rankOfBag_L4 o σ FU a0 0 0
def T_X0_bagRanked_L2 (o : Nat) (σ : ST) : Nat → Int32 → Int32 → Option Int32
  | 0, _, _ => none
  | n + 1, v1, v2 => gf σ o 0 (fun x1 => if x1 ≤ v2 then some ((-9)) else cV (T_X0_rankOfBag o σ v2) (fun x2 => if x2 = v1 then some v2 else vl (v2 + 1) (fun x4 => T_X0_bagRanked_L2 o σ n v1 x4)))
def T_X0_bagRanked (o : Nat) (σ : ST) (a0 : Int32) : Option Int32 := T_X0_bagRanked_L2 o σ FU a0 0
def T_X1_start_L21  : Nat → Int32 → ST → Option ST
  | 0, _, _ => none
  | n + 1, v3, σ => gf σ 12 3 (fun x1 => if x1 ≤ v3 then some σ else gf σ 12 4 (fun x2 => gf σ 12 2 (fun x3 => pf σ 12 4 (x2 * (x3 + 1)) (fun σ4 => vl (v3 + 1) (fun x5 => T_X1_start_L21 n x5 σ4)))))
def T_X1_start (a0 : Int32) (a1 : Int32) (σ : ST) : Option ST := pf σ 12 2 a0 (fun σ1 => cV (T_J9_min_7cf53 σ1 a1 4) (fun x2 => pf σ1 12 3 x2 (fun σ4 => pf σ4 12 4 1 (fun σ5 => T_X1_start_L21 FU 0 σ5))))
def T_X1_decode_j70 (K27 : Int32 → Int32 → Int32 → Int32 → Int32 → ST → Option (Int32 × ST)) (v2 : Int32) (v3 : Int32) (v4 : Int32) (v5 : Int32) (v6 : Int32) (v7 : Int32) (σ : ST) : Option (Int32 × ST) := vl (v3 ||| (1 <<< (v7 &&& 31))) (fun x1 => gf σ 12 2 (fun x2 => if v7 = x2 then sd σ 12 0 4 v6 ((-9)) (fun σ5 => vl (v6 + (-1)) (fun x6 => K27 v2 x1 v4 v5 x6 σ5)) else sd σ 12 0 4 v6 v7 (fun σ3 => vl (v6 + (-1)) (fun x4 => K27 v2 x1 v4 v5 x4 σ3))))
def T_X1_decode_L27  : Nat → Int32 → Int32 → Int32 → Int32 → Int32 → ST → Option (Int32 × ST)
  | 0, _, _, _, _, _, _ => none
  | n + 1, v2, v3, v4, v5, v6, σ => if v6 < 0 then gf σ 12 3 (fun x1 => gf σ 12 2 (fun x2 => cV (T_J9_max_7cf53 σ 0 (x1 - x2)) (fun x3 => if v4 = x3 then some (1, σ) else some (0, σ)))) else nz v5 (vl (v2 - v2 / v5 * v5) (fun x5 => nz v5 (vl (v2 / v5) (fun x6 => gf σ 12 2 (fun x7 => if x5 = x7 then vl (v4 + 1) (fun x8 => T_X1_decode_j70 (fun v2 v3 v4 v5 v6 s => T_X1_decode_L27 n v2 v3 v4 v5 v6 s) x6 v3 x8 v5 v6 x5 σ) else if ((v3 >>> (x5 &&& 31)) &&& 1) = 1 then some (0, σ) else T_X1_decode_j70 (fun v2 v3 v4 v5 v6 s => T_X1_decode_L27 n v2 v3 v4 v5 v6 s) x6 v3 v4 v5 v6 x5 σ)))))
def T_X1_decode (a0 : Int32) (σ : ST) : Option (Int32 × ST) := gf σ 12 2 (fun x1 => cV (T_J9_max_7cf53 σ 1 (x1 + 1)) (fun x2 => gf σ 12 3 (fun x4 => vl (x4 - 1) (fun x5 => T_X1_decode_L27 FU a0 0 0 x2 x5 σ))))
def T_X1_keepBest (σ : ST) : Option ST := cp σ 12 0 4 12 1 4 4 (fun σ1 => some σ1)
def T_X1_choiceOf (σ : ST) (a0 : Int32) : Option Int32 := if a0 < 0 then some ((-9)) else gf σ 12 3 (fun x1 => if x1 ≤ a0 then some ((-9)) else ld σ 12 0 4 a0 (fun x2 => some x2))
def T_X1_bestBagOf (σ : ST) (a0 : Int32) : Option Int32 := if a0 < 0 then some ((-9)) else gf σ 12 3 (fun x1 => if x1 ≤ a0 then some ((-9)) else ld σ 12 1 4 a0 (fun x2 => some x2))
def T_X2_refuse (a0 : Int32) (σ : ST) : Option (Int32 × ST) := if (-a0) ≤ 0 then some (a0, σ) else if 7 ≤ (-a0) then some (a0, σ) else vl (-a0) (fun x1 => ld σ 0 10 7 x1 (fun x2 => sd σ 0 10 7 x1 (x2 + 1) (fun σ3 => some (a0, σ3))))
def T_X2_feed_j27  (σ : ST) : Option (Int32 × ST) := cI (T_X2_refuse ((-6)) σ) (fun x1 σ2 => some (x1, σ2))
def T_X2_feed (a0 : Int32) (σ : ST) : Option (Int32 × ST) := if 0 ≤ a0 then if 255 < a0 then T_X2_feed_j27 σ else gf σ 0 7 (fun x1 => if x1 < 96 then gf σ 0 7 (fun x2 => sd σ 0 6 96 x2 a0 (fun σ3 => gf σ3 0 7 (fun x4 => pf σ3 0 7 (x4 + 1) (fun σ5 => gf σ5 0 7 (fun x6 => some (x6, σ5)))))) else T_X2_feed_j27 σ) else cI (T_X2_refuse ((-4)) σ) (fun x7 σ8 => some (x7, σ8))
def T_X2_digitsBehind (σ : ST) (a0 : Int32) : Option Int32 := if a0 = 98 then some 3 else if a0 = 99 then some 1 else if a0 = 100 then some ((-9)) else if a0 = 101 then some ((-9)) else if a0 = 102 then some 2 else if a0 = 103 then some 2 else if a0 = 104 then some 2 else if a0 = 105 then some ((-9)) else if a0 = 106 then some ((-9)) else if a0 = 107 then some ((-9)) else if a0 = 108 then some 3 else some ((-9))
def T_X2_formFault_j35 (σ : ST) (K5 : Int32 → Int32 → Int32 → Option Int32) (v1 : Int32) (v3 : Int32) (v4 : Int32) : Option Int32 := cV (T_X2_digitsBehind σ v4) (fun x1 => if 0 ≤ x1 then vl (v3 + 1) (fun x3 => K5 v1 x1 x3) else some v3)
def T_X2_formFault_L5 (σ : ST) : Nat → Int32 → Int32 → Int32 → Option Int32
  | 0, _, _, _ => none
  | n + 1, v1, v2, v3 => if v1 ≤ v3 then if v1 ≤ 0 then some v1 else ld σ 0 6 96 (v1 - 1) (fun x1 => if x1 = 59 then some ((-9)) else some v1) else ld σ 0 6 96 v3 (fun x2 => if v3 = 0 then T_X2_formFault_j35 σ (fun v1 v2 v3 => T_X2_formFault_L5 σ n v1 v2 v3) v1 v3 x2 else ld σ 0 6 96 (v3 - 1) (fun x3 => if x3 = 59 then T_X2_formFault_j35 σ (fun v1 v2 v3 => T_X2_formFault_L5 σ n v1 v2 v3) v1 v3 x2 else if v2 ≤ 0 then if x2 = 59 then vl (v3 + 1) (fun x4 => T_X2_formFault_L5 σ n v1 v2 x4) else some v3 else if x2 < 48 then some v3 else if x2 ≤ 57 then vl (v2 + (-1)) (fun x5 => vl (v3 + 1) (fun x6 => T_X2_formFault_L5 σ n v1 x5 x6)) else some v3))
def T_X2_formFault (σ : ST) (a0 : Int32) : Option Int32 := T_X2_formFault_L5 σ FU a0 ((-9)) 0
def T_X2_think (σ : ST) : Option ST := cV (T_X0_copyFrom 2 1 σ) (fun σ2 => some σ2)
def T_X2_digitAt (σ : ST) (a0 : Int32) : Option Int32 := if a0 < 0 then some ((-9)) else if 96 ≤ a0 then some ((-9)) else ld σ 0 6 96 a0 (fun x1 => some (x1 - 48))
def T_X2_carryOut_j164  (v2 : Int32) (v3 : Int32) (σ : ST) : Option (Int32 × ST) := vl ((10 * v2) + v3) (fun x1 => if x1 < 1 then some (0, σ) else if 60 < x1 then some (0, σ) else gf σ 2 14 (fun x2 => if (x2 + x1) ≤ 999 then cV (T_X0_goHours 2 x1 σ) (fun σ4 => some (1, σ4)) else some (0, σ)))
def T_X2_carryOut (a0 : Int32) (σ : ST) : Option (Int32 × ST) := cV (T_X2_digitAt σ (a0 + 1)) (fun x1 => cV (T_X2_digitAt σ (a0 + 2)) (fun x3 => cV (T_X2_digitAt σ (a0 + 3)) (fun x5 => ld σ 0 6 96 a0 (fun x7 => if x7 = 98 then if 6 ≤ x1 then some (0, σ) else cI (T_X0_addBag 2 x1 x3 x5 σ) (fun x15 σ16 => if x15 < 0 then some (0, σ16) else some (1, σ16)) else if x7 = 99 then pf σ 2 13 x1 (fun σ14 => some (1, σ14)) else if x7 = 100 then T_X2_carryOut_j164 x1 x3 σ else if x7 = 101 then T_X2_carryOut_j164 x1 x3 σ else if x7 = 102 then cI (T_X0_befriend 2 x1 x3 σ) (fun x12 σ13 => rz x12 (some (x12, σ13))) else if x7 = 103 then cI (T_X0_hand 2 x1 x3 σ) (fun x10 σ11 => rz x10 (some (x10, σ11))) else if x7 = 104 then T_X2_carryOut_j164 x1 x3 σ else if x7 = 105 then T_X2_carryOut_j164 x1 x3 σ else if x7 = 106 then T_X2_carryOut_j164 x1 x3 σ else if x7 = 107 then T_X2_carryOut_j164 x1 x3 σ else if x7 = 108 then cI (T_X0_addBearer 2 x1 x3 x5 σ) (fun x8 σ9 => if x8 < 0 then some (0, σ9) else some (1, σ9)) else T_X2_carryOut_j164 x1 x3 σ))))
def T_X2_forgetPast (σ : ST) : Option ST := pf σ 0 5 0 (fun σ1 => some σ1)
def T_X2_bequest_j60 (K35 : Int32 → Int32 → Int32 → ST → Option (Int32 × ST)) (v1 : Int32) (v3 : Int32) (v4 : Int32) (σ : ST) : Option (Int32 × ST) := cI (T_X2_carryOut v4 σ) (fun x1 σ2 => if x1 = 0 then some (((-2000)) - v4, σ2) else vl (v3 + 1) (fun x3 => vl (v4 + 1) (fun x4 => K35 v1 x3 x4 σ2)))
def T_X2_bequest_L35  : Nat → Int32 → Int32 → Int32 → ST → Option (Int32 × ST)
  | 0, _, _, _, _ => none
  | n + 1, v1, v3, v4, σ => if v1 ≤ v4 then cV (T_X0_copyFrom 1 2 σ) (fun σ2 => cV (T_X2_forgetPast σ2) (fun σ4 => some (v3, σ4))) else if v4 = 0 then T_X2_bequest_j60 (fun v1 v3 v4 s => T_X2_bequest_L35 n v1 v3 v4 s) v1 v3 v4 σ else ld σ 0 6 96 (v4 - 1) (fun x5 => if x5 = 59 then T_X2_bequest_j60 (fun v1 v3 v4 s => T_X2_bequest_L35 n v1 v3 v4 s) v1 v3 v4 σ else vl (v4 + 1) (fun x6 => T_X2_bequest_L35 n v1 v3 x6 σ))
def T_X2_bequest (σ : ST) : Option (Int32 × ST) := gf σ 0 7 (fun x1 => pf σ 0 7 0 (fun σ2 => cV (T_X2_formFault σ2 x1) (fun x3 => if x3 < 0 then cV (T_X2_think σ2) (fun σ6 => T_X2_bequest_L35 FU x1 0 0 σ6) else some (((-1000)) - x3, σ2))))
def T_X2_bagOf (a0 : Int32) (a1 : Int32) (σ : ST) : Option (Int32 × ST) := cV (T_X0_hasBag 1 σ a0) (fun x1 => if x1 = 0 then cI (T_X2_refuse ((-1)) σ) (fun x13 σ14 => some (x13, σ14)) else if a1 = 0 then ld σ 1 1 6 a0 (fun x12 => some (x12, σ)) else if a1 = 1 then ld σ 1 2 6 a0 (fun x11 => some (x11, σ)) else if a1 = 2 then ld σ 1 3 6 a0 (fun x10 => some (x10, σ)) else if a1 = 3 then ld σ 1 4 6 a0 (fun x9 => some (x9, σ)) else if a1 = 4 then ld σ 1 5 6 a0 (fun x8 => some (x8, σ)) else if a1 = 5 then ld σ 1 6 6 a0 (fun x7 => some (x7, σ)) else if a1 = 6 then cV (T_X0_pullOf 1 σ a0) (fun x5 => some (x5, σ)) else cI (T_X2_refuse ((-2)) σ) (fun x3 σ4 => some (x3, σ4)))
def T_X2_bearerOf (a0 : Int32) (a1 : Int32) (σ : ST) : Option (Int32 × ST) := cV (T_X0_hasBearer 1 σ a0) (fun x1 => if x1 = 0 then cI (T_X2_refuse ((-1)) σ) (fun x12 σ13 => some (x12, σ13)) else if a1 = 0 then ld σ 1 8 5 a0 (fun x11 => some (x11, σ)) else if a1 = 1 then ld σ 1 9 5 a0 (fun x10 => some (x10, σ)) else if a1 = 2 then ld σ 1 10 5 a0 (fun x9 => some (x9, σ)) else if a1 = 3 then ld σ 1 11 5 a0 (fun x8 => some (x8, σ)) else if a1 = 4 then ld σ 1 12 5 a0 (fun x7 => some (x7, σ)) else if a1 = 5 then cV (T_X0_isLed 1 σ a0) (fun x5 => if x5 = 0 then some (0, σ) else some (1, σ)) else cI (T_X2_refuse ((-2)) σ) (fun x3 σ4 => some (x3, σ4)))
def T_X2_count (σ : ST) (a0 : Int32) : Option Int32 := if a0 = 0 then gf σ 1 0 (fun x14 => some x14) else if a0 = 1 then gf σ 1 7 (fun x13 => some x13) else if a0 = 2 then gf σ 1 14 (fun x12 => some x12) else if a0 = 3 then gf σ 1 13 (fun x11 => some x11) else if a0 = 4 then cV (T_X0_bagsHad 1 σ) (fun x9 => some x9) else if a0 = 5 then cV (T_X0_allBreath 1 σ) (fun x7 => some x7) else if a0 = 6 then cV (T_X0_ledOnes 1 σ) (fun x5 => some x5) else if a0 = 7 then gf σ 0 7 (fun x4 => some x4) else if a0 = 8 then gf σ 0 9 (fun x3 => some x3) else if a0 = 9 then gf σ 0 5 (fun x2 => some x2) else if a0 < 11 then some ((-9)) else if 16 < a0 then some ((-9)) else ld σ 0 10 7 (a0 - 10) (fun x1 => some x1)
def T_X2_bag_j10  (σ : ST) : Option (Int32 × ST) := cI (T_X2_refuse ((-2)) σ) (fun x1 σ2 => some (x1, σ2))
def T_X2_bag_j25  (σ : ST) : Option (Int32 × ST) := cI (T_X2_refuse ((-4)) σ) (fun x1 σ2 => some (x1, σ2))
def T_X2_bag_j56  (σ : ST) : Option (Int32 × ST) := cI (T_X2_refuse ((-6)) σ) (fun x1 σ2 => some (x1, σ2))
def T_X2_bag (a0 : Int32) (a1 : Int32) (a2 : Int32) (σ : ST) : Option (Int32 × ST) := if a0 < 0 then T_X2_bag_j10 σ else if a0 < 6 then if a1 < 0 then T_X2_bag_j25 σ else if 0 ≤ a2 then if 10 ≤ a1 then T_X2_bag_j56 σ else if 10 ≤ a2 then T_X2_bag_j56 σ else gf σ 1 0 (fun x1 => if x1 < 6 then cV (T_X2_forgetPast σ) (fun σ3 => cI (T_X0_addBag 1 a0 a1 a2 σ3) (fun x4 σ5 => some (x4, σ5))) else T_X2_bag_j56 σ) else T_X2_bag_j25 σ else T_X2_bag_j10 σ
def T_X2_bearer_j12  (σ : ST) : Option (Int32 × ST) := cI (T_X2_refuse ((-4)) σ) (fun x1 σ2 => some (x1, σ2))
def T_X2_bearer_j48  (σ : ST) : Option (Int32 × ST) := cI (T_X2_refuse ((-6)) σ) (fun x1 σ2 => some (x1, σ2))
def T_X2_bearer (a0 : Int32) (a1 : Int32) (a2 : Int32) (σ : ST) : Option (Int32 × ST) := if a0 < 0 then T_X2_bearer_j12 σ else if a1 < 0 then T_X2_bearer_j12 σ else if 0 ≤ a2 then if 10 ≤ a0 then T_X2_bearer_j48 σ else if 10 ≤ a1 then T_X2_bearer_j48 σ else if 10 ≤ a2 then T_X2_bearer_j48 σ else gf σ 1 7 (fun x1 => if x1 < 5 then cV (T_X2_forgetPast σ) (fun σ3 => cI (T_X0_addBearer 1 a0 a1 a2 σ3) (fun x4 σ5 => some (x4, σ5))) else T_X2_bearer_j48 σ) else T_X2_bearer_j12 σ
def T_X2_remember_j58  (σ : ST) : Option ST := gf σ 0 5 (fun x1 => pl σ x1 (fun w2 => cV (T_X0_copyFrom w2 1 σ) (fun σ4 => gf σ4 0 5 (fun x5 => pf σ4 0 5 (x5 + 1) (fun σ6 => some σ6)))))
def T_X2_remember_L18  : Nat → Nat → Int32 → ST → Option ST
  | 0, _, _, _ => none
  | n + 1, v1, v2, σ => if 8 ≤ v2 then ps σ 7 v1 (fun σ1 => pf σ1 0 5 7 (fun σ2 => T_X2_remember_j58 σ2)) else pl σ v2 (fun w3 => ps σ (v2 - 1) w3 (fun σ4 => vl (v2 + 1) (fun x5 => T_X2_remember_L18 n v1 x5 σ4)))
def T_X2_remember (σ : ST) : Option ST := gf σ 0 5 (fun x1 => if x1 < 8 then T_X2_remember_j58 σ else pl σ 0 (fun w2 => T_X2_remember_L18 FU w2 1 σ))
def T_X2_gives_j22  (σ : ST) : Option (Int32 × ST) := cI (T_X2_refuse ((-1)) σ) (fun x1 σ2 => some (x1, σ2))
def T_X2_gives (a0 : Int32) (a1 : Int32) (σ : ST) : Option (Int32 × ST) := cV (T_X0_hasBag 1 σ a0) (fun x1 => if x1 = 0 then T_X2_gives_j22 σ else cV (T_X0_hasBearer 1 σ a1) (fun x3 => if x3 = 0 then T_X2_gives_j22 σ else cV (T_X2_remember σ) (fun σ6 => ld σ6 1 11 5 a1 (fun x7 => cI (T_X0_hand 1 a0 a1 σ6) (fun x8 σ9 => some (x7, σ9))))))
def T_X2_friends_j22  (σ : ST) : Option (Int32 × ST) := cI (T_X2_refuse ((-1)) σ) (fun x1 σ2 => some (x1, σ2))
def T_X2_friends (a0 : Int32) (a1 : Int32) (σ : ST) : Option (Int32 × ST) := cV (T_X0_hasBag 1 σ a0) (fun x1 => if x1 = 0 then T_X2_friends_j22 σ else cV (T_X0_hasBag 1 σ a1) (fun x3 => if x3 = 0 then T_X2_friends_j22 σ else cV (T_X2_forgetPast σ) (fun σ6 => cI (T_X0_befriend 1 a0 a1 σ6) (fun x7 σ8 => if a0 = a1 then some (0, σ8) else some (1, σ8)))))
def T_X2_isPlace (σ : ST) (a0 : Int32) : Option Int32 := if a0 < 0 then some 0 else if 10 ≤ a0 then some 0 else some 1
def T_X2_wants_j18  (σ : ST) : Option (Int32 × ST) := cI (T_X2_refuse ((-1)) σ) (fun x1 σ2 => some (x1, σ2))
def T_X2_wants (a0 : Int32) (a1 : Int32) (σ : ST) : Option (Int32 × ST) := cV (T_X0_hasBearer 1 σ a0) (fun x1 => if x1 = 0 then T_X2_wants_j18 σ else cV (T_X2_isPlace σ a1) (fun x3 => if x3 = 0 then T_X2_wants_j18 σ else cV (T_X2_remember σ) (fun σ6 => ld σ6 1 9 5 a0 (fun x7 => sd σ6 1 9 5 a0 a1 (fun σ8 => some (x7, σ8))))))
def T_X2_put_j18  (σ : ST) : Option (Int32 × ST) := cI (T_X2_refuse ((-1)) σ) (fun x1 σ2 => some (x1, σ2))
def T_X2_put (a0 : Int32) (a1 : Int32) (σ : ST) : Option (Int32 × ST) := cV (T_X0_hasBearer 1 σ a0) (fun x1 => if x1 = 0 then T_X2_put_j18 σ else cV (T_X2_isPlace σ a1) (fun x3 => if x3 = 0 then T_X2_put_j18 σ else cV (T_X2_remember σ) (fun σ6 => ld σ6 1 10 5 a0 (fun x7 => sd σ6 1 10 5 a0 a1 (fun σ8 => some (x7, σ8))))))
def T_X2_colonel (a0 : Int32) (σ : ST) : Option (Int32 × ST) := cV (T_X2_isPlace σ a0) (fun x1 => if x1 = 0 then cI (T_X2_refuse ((-1)) σ) (fun x7 σ8 => some (x7, σ8)) else cV (T_X2_remember σ) (fun σ4 => gf σ4 1 13 (fun x5 => pf σ4 1 13 a0 (fun σ6 => some (x5, σ6)))))
def T_X2_hours_j33  (σ : ST) : Option (Int32 × ST) := cI (T_X2_refuse ((-6)) σ) (fun x1 σ2 => some (x1, σ2))
def T_X2_hours (a0 : Int32) (σ : ST) : Option (Int32 × ST) := if 1 ≤ a0 then if 60 < a0 then T_X2_hours_j33 σ else gf σ 1 14 (fun x1 => if (x1 + a0) ≤ 999 then cV (T_X2_forgetPast σ) (fun σ3 => cV (T_X0_startTallies 1 σ3) (fun σ5 => cV (T_X0_goHours 1 a0 σ5) (fun σ7 => gf σ7 1 17 (fun x8 => some (x8, σ7))))) else T_X2_hours_j33 σ) else cI (T_X2_refuse ((-4)) σ) (fun x9 σ10 => some (x9, σ10))
def T_X2_back (σ : ST) : Option (Int32 × ST) := gf σ 0 5 (fun x1 => if 0 < x1 then gf σ 0 5 (fun x2 => pf σ 0 5 (x2 - 1) (fun σ3 => gf σ3 0 5 (fun x4 => pl σ3 x4 (fun w5 => cV (T_X0_copyFrom 1 w5 σ3) (fun σ7 => gf σ7 0 5 (fun x8 => some (x8, σ7))))))) else cI (T_X2_refuse ((-3)) σ) (fun x9 σ10 => some (x9, σ10)))
def T_X2_image (σ : ST) : Option (Int32 × ST) := cV (T_X0_copyFrom 3 1 σ) (fun σ2 => rz 1 (pf σ2 0 3 1 (fun σ3 => gf σ3 1 14 (fun x4 => some (x4, σ3)))))
def T_X2_restore (σ : ST) : Option (Int32 × ST) := gf σ 0 3 (fun x1 => if x1 = 0 then cI (T_X2_refuse ((-3)) σ) (fun x7 σ8 => some (x7, σ8)) else cV (T_X0_copyFrom 1 3 σ) (fun σ3 => cV (T_X2_forgetPast σ3) (fun σ5 => gf σ5 1 14 (fun x6 => some (x6, σ5)))))
def T_X2_wrongHours (σ : ST) (a0 : Int32) : Option Int32 := if 0 ≤ a0 then if a0 ≤ 60 then some 0 else some ((-6)) else some ((-4))
def T_X2_behind_j44  (σ : ST) : Option (Int32 × ST) := cI (T_X2_refuse ((-2)) σ) (fun x1 σ2 => some (x1, σ2))
def T_X2_behind (a0 : Int32) (a1 : Int32) (a2 : Int32) (σ : ST) : Option (Int32 × ST) := cV (T_X0_hasBearer 1 σ a0) (fun x1 => if x1 = 0 then cI (T_X2_refuse ((-1)) σ) (fun x17 σ18 => some (x17, σ18)) else cV (T_X2_wrongHours σ a1) (fun x3 => if x3 = 0 then if a2 < 0 then T_X2_behind_j44 σ else if a2 ≤ 3 then cV (T_X2_think σ) (fun σ6 => cV (T_X0_goHours 2 a1 σ6) (fun σ8 => if a2 = 0 then ld σ8 2 10 5 a0 (fun x14 => some (x14, σ8)) else if a2 = 1 then ld σ8 2 12 5 a0 (fun x13 => some (x13, σ8)) else if a2 = 2 then ld σ8 2 15 5 a0 (fun x12 => some (x12, σ8)) else ld σ8 2 11 5 a0 (fun x9 => cV (T_X0_pullOf 2 σ8 x9) (fun x10 => some (x10, σ8))))) else T_X2_behind_j44 σ else cI (T_X2_refuse x3 σ) (fun x15 σ16 => some (x15, σ16))))
def T_X2_areTwo (σ : ST) (a0 : Int32) (a1 : Int32) : Option Int32 := cV (T_X0_hasBearer 1 σ a0) (fun x1 => if x1 = 0 then some 0 else cV (T_X0_hasBearer 1 σ a1) (fun x3 => if x3 = 0 then some 0 else if a0 = a1 then some 0 else some 1))
def T_X2_firstMeeting_L3  : Nat → Int32 → Int32 → Int32 → Int32 → ST → Option (Int32 × ST)
  | 0, _, _, _, _, _ => none
  | n + 1, v1, v2, v3, v4, σ => if v3 < v4 then some (61, σ) else ld σ 2 10 5 v1 (fun x1 => ld σ 2 10 5 v2 (fun x2 => if x1 = x2 then some (v4, σ) else cV (T_X0_goHours 2 1 σ) (fun σ4 => vl (v4 + 1) (fun x5 => T_X2_firstMeeting_L3 n v1 v2 v3 x5 σ4))))
def T_X2_firstMeeting (a0 : Int32) (a1 : Int32) (a2 : Int32) (σ : ST) : Option (Int32 × ST) := T_X2_firstMeeting_L3 FU a0 a1 a2 0 σ
def T_X2_orNone (σ : ST) (a0 : Int32) : Option Int32 := if a0 ≤ 60 then some a0 else some ((-9))
def T_X2_meet (a0 : Int32) (a1 : Int32) (σ : ST) : Option (Int32 × ST) := cV (T_X2_areTwo σ a0 a1) (fun x1 => if x1 = 0 then cI (T_X2_refuse ((-1)) σ) (fun x9 σ10 => some (x9, σ10)) else cV (T_X2_think σ) (fun σ4 => cI (T_X2_firstMeeting a0 a1 60 σ4) (fun x5 σ6 => cV (T_X2_orNone σ6 x5) (fun x7 => some (x7, σ6)))))
def T_X2_wrongHoursOrWhat (σ : ST) (a0 : Int32) (a1 : Int32) (a2 : Int32) : Option Int32 := cV (T_X2_wrongHours σ a0) (fun x1 => if x1 = 0 then if a1 < 0 then some ((-2)) else if a1 ≤ a2 then some 0 else some ((-2)) else some x1)
def T_X2_startPlaceTally_L2  : Nat → Int32 → ST → Option ST
  | 0, _, _ => none
  | n + 1, v1, σ => if 10 ≤ v1 then some σ else sd σ 0 11 10 v1 0 (fun σ1 => vl (v1 + 1) (fun x2 => T_X2_startPlaceTally_L2 n x2 σ1))
def T_X2_startPlaceTally (σ : ST) : Option ST := T_X2_startPlaceTally_L2 FU 0 σ
def T_X2_tallyPlaces_L2  : Nat → Int32 → ST → Option ST
  | 0, _, _ => none
  | n + 1, v1, σ => gf σ 2 7 (fun x1 => if x1 ≤ v1 then some σ else ld σ 2 10 5 v1 (fun x2 => cV (T_X2_isPlace σ x2) (fun x3 => if x3 = 0 then vl (v1 + 1) (fun x5 => T_X2_tallyPlaces_L2 n x5 σ) else ld σ 2 10 5 v1 (fun x6 => ld σ 0 11 10 x6 (fun x7 => sd σ 0 11 10 x6 (x7 + 1) (fun σ8 => vl (v1 + 1) (fun x9 => T_X2_tallyPlaces_L2 n x9 σ8)))))))
def T_X2_tallyPlaces (σ : ST) : Option ST := T_X2_tallyPlaces_L2 FU 0 σ
def T_X2_fullestPlace_L4 (σ : ST) : Nat → Int32 → Int32 → Option Int32
  | 0, _, _ => none
  | n + 1, v1, v2 => if 10 ≤ v2 then some v1 else ld σ 0 11 10 v2 (fun x1 => ld σ 0 11 10 v1 (fun x2 => if x1 ≤ x2 then vl (v2 + 1) (fun x3 => T_X2_fullestPlace_L4 σ n v1 x3) else vl (v2 + 1) (fun x4 => T_X2_fullestPlace_L4 σ n v2 x4)))
def T_X2_fullestPlace (σ : ST) : Option Int32 := T_X2_fullestPlace_L4 σ FU 0 1
def T_X2_company (a0 : Int32) (a1 : Int32) (σ : ST) : Option (Int32 × ST) := cV (T_X2_wrongHoursOrWhat σ a0 a1 1) (fun x1 => if x1 = 0 then cV (T_X2_think σ) (fun σ4 => cV (T_X0_goHours 2 a0 σ4) (fun σ6 => cV (T_X2_startPlaceTally σ6) (fun σ8 => cV (T_X2_tallyPlaces σ8) (fun σ10 => cV (T_X2_fullestPlace σ10) (fun x11 => if a1 = 0 then ld σ10 0 11 10 x11 (fun x13 => some (x13, σ10)) else some (x11, σ10)))))) else cI (T_X2_refuse x1 σ) (fun x14 σ15 => some (x14, σ15)))
def T_X2_firstOutOfBreath_L2 (σ : ST) : Nat → Int32 → Option Int32
  | 0, _ => none
  | n + 1, v1 => gf σ 2 7 (fun x1 => if x1 ≤ v1 then some ((-9)) else ld σ 2 12 5 v1 (fun x2 => if x2 = 0 then some v1 else vl (v1 + 1) (fun x3 => T_X2_firstOutOfBreath_L2 σ n x3)))
def T_X2_firstOutOfBreath (σ : ST) : Option Int32 := T_X2_firstOutOfBreath_L2 σ FU 0
def T_X2_breathless_j67 (K28 : Int32 → Int32 → ST → Option (Int32 × ST)) (v1 : Int32) (v2 : Int32) (σ : ST) : Option (Int32 × ST) := cV (T_X0_goHours 2 1 σ) (fun σ2 => vl (v2 + 1) (fun x3 => K28 v1 x3 σ2))
def T_X2_breathless_L28  : Nat → Int32 → Int32 → ST → Option (Int32 × ST)
  | 0, _, _, _ => none
  | n + 1, v1, v2, σ => if 60 < v2 then some ((-9), σ) else if v1 = ((-1)) then cV (T_X2_firstOutOfBreath σ) (fun x2 => if x2 < 0 then T_X2_breathless_j67 (fun v1 v2 s => T_X2_breathless_L28 n v1 v2 s) v1 v2 σ else some (x2, σ)) else ld σ 2 12 5 v1 (fun x1 => if x1 = 0 then some (v2, σ) else T_X2_breathless_j67 (fun v1 v2 s => T_X2_breathless_L28 n v1 v2 s) v1 v2 σ)
def T_X2_breathless_j22  (v1 : Int32) (σ : ST) : Option (Int32 × ST) := cV (T_X2_think σ) (fun σ2 => T_X2_breathless_L28 FU v1 0 σ2)
def T_X2_breathless (a0 : Int32) (σ : ST) : Option (Int32 × ST) := if a0 = ((-1)) then T_X2_breathless_j22 a0 σ else cV (T_X0_hasBearer 1 σ a0) (fun x1 => if x1 = 0 then cI (T_X2_refuse ((-1)) σ) (fun x3 σ4 => some (x3, σ4)) else T_X2_breathless_j22 a0 σ)
def T_X2_whereColonel_L8  : Nat → Int32 → Int32 → Int32 → Int32 → ST → Option (Int32 × ST)
  | 0, _, _, _, _, _ => none
  | n + 1, v1, v2, v3, v4, σ => if 10 ≤ v4 then some (v2, σ) else cV (T_X2_think σ) (fun σ2 => pf σ2 2 13 v4 (fun σ3 => cV (T_X0_goHours 2 v1 σ3) (fun σ5 => gf σ5 2 17 (fun x6 => if v3 ≤ x6 then vl (v4 + 1) (fun x7 => T_X2_whereColonel_L8 n v1 v2 v3 x7 σ5) else gf σ5 2 17 (fun x8 => vl (v4 + 1) (fun x9 => T_X2_whereColonel_L8 n v1 v4 x8 x9 σ5))))))
def T_X2_whereColonel (a0 : Int32) (σ : ST) : Option (Int32 × ST) := T_X2_whereColonel_L8 FU a0 0 1000000 0 σ
def T_X2_leastLed_L5 (σ : ST) : Nat → Int32 → Int32 → Option Int32
  | 0, _, _ => none
  | n + 1, v1, v2 => gf σ 2 7 (fun x1 => if x1 ≤ v2 then some v1 else if v1 < 0 then vl (v2 + 1) (fun x2 => T_X2_leastLed_L5 σ n v2 x2) else ld σ 2 15 5 v2 (fun x3 => ld σ 2 15 5 v1 (fun x4 => if x4 ≤ x3 then vl (v2 + 1) (fun x5 => T_X2_leastLed_L5 σ n v1 x5) else vl (v2 + 1) (fun x6 => T_X2_leastLed_L5 σ n v2 x6))))
def T_X2_leastLed (σ : ST) : Option Int32 := T_X2_leastLed_L5 σ FU ((-9)) 0
def T_X2_snaps (a0 : Int32) (a1 : Int32) (σ : ST) : Option (Int32 × ST) := cV (T_X2_wrongHoursOrWhat σ a0 a1 2) (fun x1 => if x1 = 0 then if a1 = 1 then cI (T_X2_whereColonel a0 σ) (fun x10 σ11 => some (x10, σ11)) else cV (T_X2_think σ) (fun σ4 => cV (T_X0_goHours 2 a0 σ4) (fun σ6 => if a1 = 0 then gf σ6 2 17 (fun x9 => some (x9, σ6)) else cV (T_X2_leastLed σ6) (fun x7 => some (x7, σ6)))) else cI (T_X2_refuse x1 σ) (fun x12 σ13 => some (x12, σ13)))
def T_X2_tired (a0 : Int32) (σ : ST) : Option (Int32 × ST) := cV (T_X2_wrongHours σ a0) (fun x1 => if x1 = 0 then cV (T_X2_think σ) (fun σ4 => cV (T_X0_goHours 2 a0 σ4) (fun σ6 => cV (T_X0_allBreath 2 σ6) (fun x7 => some (x7, σ6)))) else cI (T_X2_refuse x1 σ) (fun x9 σ10 => some (x9, σ10)))
def T_X2_visits_j18  (σ : ST) : Option (Int32 × ST) := cI (T_X2_refuse ((-1)) σ) (fun x1 σ2 => some (x1, σ2))
def T_X2_visits_L52  : Nat → Int32 → Int32 → Int32 → Int32 → Int32 → ST → Option (Int32 × ST)
  | 0, _, _, _, _, _, _ => none
  | n + 1, v1, v2, v3, v5, v6, σ => if v3 < v6 then some (v5, σ) else cV (T_X0_goHours 2 1 σ) (fun σ2 => ld σ2 2 10 5 v1 (fun x3 => if x3 = v2 then vl (v5 + 1) (fun x5 => vl (v6 + 1) (fun x6 => T_X2_visits_L52 n v1 v2 v3 x5 x6 σ2)) else vl (v6 + 1) (fun x4 => T_X2_visits_L52 n v1 v2 v3 v5 x4 σ2)))
def T_X2_visits (a0 : Int32) (a1 : Int32) (a2 : Int32) (σ : ST) : Option (Int32 × ST) := cV (T_X0_hasBearer 1 σ a0) (fun x1 => if x1 = 0 then T_X2_visits_j18 σ else cV (T_X2_isPlace σ a1) (fun x3 => if x3 = 0 then T_X2_visits_j18 σ else cV (T_X2_wrongHours σ a2) (fun x5 => if x5 = 0 then cV (T_X2_think σ) (fun σ8 => T_X2_visits_L52 FU a0 a1 a2 0 1 σ8) else cI (T_X2_refuse x5 σ) (fun x9 σ10 => some (x9, σ10)))))
def T_X2_together_L43  : Nat → Int32 → Int32 → Int32 → Int32 → Int32 → ST → Option (Int32 × ST)
  | 0, _, _, _, _, _, _ => none
  | n + 1, v1, v2, v3, v5, v6, σ => if v3 < v6 then some (v5, σ) else cV (T_X0_goHours 2 1 σ) (fun σ2 => ld σ2 2 10 5 v1 (fun x3 => ld σ2 2 10 5 v2 (fun x4 => if x3 = x4 then vl (v5 + 1) (fun x6 => vl (v6 + 1) (fun x7 => T_X2_together_L43 n v1 v2 v3 x6 x7 σ2)) else vl (v6 + 1) (fun x5 => T_X2_together_L43 n v1 v2 v3 v5 x5 σ2))))
def T_X2_together (a0 : Int32) (a1 : Int32) (a2 : Int32) (σ : ST) : Option (Int32 × ST) := cV (T_X2_areTwo σ a0 a1) (fun x1 => if x1 = 0 then cI (T_X2_refuse ((-1)) σ) (fun x9 σ10 => some (x9, σ10)) else cV (T_X2_wrongHours σ a2) (fun x3 => if x3 = 0 then cV (T_X2_think σ) (fun σ6 => T_X2_together_L43 FU a0 a1 a2 0 1 σ6) else cI (T_X2_refuse x3 σ) (fun x7 σ8 => some (x7, σ8))))
def T_X2_rests (a0 : Int32) (a1 : Int32) (σ : ST) : Option (Int32 × ST) := cV (T_X0_hasBearer 1 σ a0) (fun x1 => if x1 = 0 then cI (T_X2_refuse ((-1)) σ) (fun x12 σ13 => some (x12, σ13)) else cV (T_X2_wrongHours σ a1) (fun x3 => if x3 = 0 then cV (T_X2_think σ) (fun σ6 => cV (T_X0_goHours 2 a1 σ6) (fun σ8 => ld σ8 2 16 5 a0 (fun x9 => some (x9, σ8)))) else cI (T_X2_refuse x3 σ) (fun x10 σ11 => some (x10, σ11))))
def T_X2_firstSnap_L6  : Nat → Int32 → ST → Option (Int32 × ST)
  | 0, _, _ => none
  | n + 1, v1, σ => if 60 < v1 then some ((-9), σ) else cV (T_X0_goHours 2 1 σ) (fun σ2 => gf σ2 2 17 (fun x3 => if x3 ≤ 0 then vl (v1 + 1) (fun x4 => T_X2_firstSnap_L6 n x4 σ2) else some (v1, σ2)))
def T_X2_firstSnap (σ : ST) : Option (Int32 × ST) := cV (T_X2_think σ) (fun σ2 => T_X2_firstSnap_L6 FU 1 σ2)
def T_X2_busy_L32  : Nat → Int32 → Int32 → Int32 → ST → Option (Int32 × ST)
  | 0, _, _, _, _ => none
  | n + 1, v1, v2, v4, σ => if v1 < v4 then cV (T_X2_fullestPlace σ) (fun x1 => if v2 = 0 then some (x1, σ) else ld σ 0 11 10 x1 (fun x3 => some (x3, σ))) else cV (T_X0_goHours 2 1 σ) (fun σ5 => cV (T_X2_tallyPlaces σ5) (fun σ7 => vl (v4 + 1) (fun x8 => T_X2_busy_L32 n v1 v2 x8 σ7)))
def T_X2_busy (a0 : Int32) (a1 : Int32) (σ : ST) : Option (Int32 × ST) := cV (T_X2_wrongHoursOrWhat σ a0 a1 1) (fun x1 => if x1 = 0 then cV (T_X2_think σ) (fun σ4 => cV (T_X2_startPlaceTally σ4) (fun σ6 => cV (T_X2_tallyPlaces σ6) (fun σ8 => T_X2_busy_L32 FU a0 a1 1 σ8))) else cI (T_X2_refuse x1 σ) (fun x9 σ10 => some (x9, σ10)))
def T_X2_gathering_L6  : Nat → Int32 → ST → Option (Int32 × ST)
  | 0, _, _ => none
  | n + 1, v1, σ => if 60 < v1 then some ((-9), σ) else cV (T_X0_allAtOnePlace 2 σ) (fun x1 => if x1 = 0 then cV (T_X0_goHours 2 1 σ) (fun σ4 => vl (v1 + 1) (fun x5 => T_X2_gathering_L6 n x5 σ4)) else some (v1, σ))
def T_X2_gathering (σ : ST) : Option (Int32 × ST) := cV (T_X2_think σ) (fun σ2 => T_X2_gathering_L6 FU 0 σ2)
def T_X2_farthest_L58 (K40 : Int32 → Int32 → Int32 → Int32 → ST → Option (Int32 × ST)) : Nat → Int32 → Int32 → Int32 → Int32 → Int32 → ST → Option (Int32 × ST)
  | 0, _, _, _, _, _, _ => none
  | n + 1, v2, v4, v5, v6, v7, σ => gf σ 2 7 (fun x1 => if x1 ≤ v7 then vl (v6 + 1) (fun x2 => K40 v2 v4 v5 x2 σ) else ld σ 2 10 5 v6 (fun x3 => ld σ 2 10 5 v7 (fun x4 => cV (T_X2_placesApart σ x3 x4) (fun x5 => if x5 ≤ v5 then vl (v7 + 1) (fun x7 => T_X2_farthest_L58 K40 n v2 v4 v5 v6 x7 σ) else vl ((10 * v6) + v7) (fun x8 => vl (v7 + 1) (fun x9 => T_X2_farthest_L58 K40 n v2 x8 x5 v6 x9 σ))))))
def T_X2_farthest_L40  : Nat → Int32 → Int32 → Int32 → Int32 → ST → Option (Int32 × ST)
  | 0, _, _, _, _, _ => none
  | n + 1, v2, v4, v5, v6, σ => gf σ 2 7 (fun x1 => if x1 ≤ v6 then if v2 = 0 then some (v4, σ) else some (v5, σ) else vl (v6 + 1) (fun x2 => T_X2_farthest_L58 (fun v2 v4 v5 v6 s => T_X2_farthest_L40 n v2 v4 v5 v6 s) FU v2 v4 v5 v6 x2 σ))
def T_X2_farthest (a0 : Int32) (a1 : Int32) (σ : ST) : Option (Int32 × ST) := cV (T_X2_wrongHoursOrWhat σ a0 a1 1) (fun x1 => if x1 = 0 then cV (T_X2_think σ) (fun σ4 => cV (T_X0_goHours 2 a0 σ4) (fun σ6 => T_X2_farthest_L40 FU a1 ((-9)) ((-9)) 0 σ6)) else cI (T_X2_refuse x1 σ) (fun x7 σ8 => some (x7, σ8)))
def T_X2_firstAt_L3  : Nat → Int32 → Int32 → Int32 → Int32 → ST → Option (Int32 × ST)
  | 0, _, _, _, _, _ => none
  | n + 1, v1, v2, v3, v4, σ => if v3 < v4 then some (61, σ) else ld σ 2 10 5 v1 (fun x1 => if x1 = v2 then some (v4, σ) else cV (T_X0_goHours 2 1 σ) (fun σ3 => vl (v4 + 1) (fun x4 => T_X2_firstAt_L3 n v1 v2 v3 x4 σ3)))
def T_X2_firstAt (a0 : Int32) (a1 : Int32) (a2 : Int32) (σ : ST) : Option (Int32 × ST) := T_X2_firstAt_L3 FU a0 a1 a2 0 σ
def T_X2_bestBag_j18  (σ : ST) : Option (Int32 × ST) := cI (T_X2_refuse ((-1)) σ) (fun x1 σ2 => some (x1, σ2))
def T_X2_bestBag_j33  (σ : ST) : Option (Int32 × ST) := cI (T_X2_refuse ((-2)) σ) (fun x1 σ2 => some (x1, σ2))
def T_X2_bestBag_L51  : Nat → Int32 → Int32 → Int32 → Int32 → Int32 → Int32 → ST → Option (Int32 × ST)
  | 0, _, _, _, _, _, _, _ => none
  | n + 1, v1, v2, v3, v4, v5, v6, σ => gf σ 1 0 (fun x1 => if x1 ≤ v6 then if v3 = 0 then some (v4, σ) else cV (T_X2_orNone σ v5) (fun x2 => some (x2, σ)) else cV (T_X2_think σ) (fun σ5 => cI (T_X0_hand 2 v6 v1 σ5) (fun x6 σ7 => cI (T_X2_firstAt v1 v2 (v5 - 1) σ7) (fun x8 σ9 => if v5 ≤ x8 then vl (v6 + 1) (fun x10 => T_X2_bestBag_L51 n v1 v2 v3 v4 v5 x10 σ9) else vl (v6 + 1) (fun x11 => T_X2_bestBag_L51 n v1 v2 v3 v6 x8 x11 σ9)))))
def T_X2_bestBag (a0 : Int32) (a1 : Int32) (a2 : Int32) (σ : ST) : Option (Int32 × ST) := cV (T_X0_hasBearer 1 σ a0) (fun x1 => if x1 = 0 then T_X2_bestBag_j18 σ else cV (T_X2_isPlace σ a1) (fun x3 => if x3 = 0 then T_X2_bestBag_j18 σ else if a2 < 0 then T_X2_bestBag_j33 σ else if a2 ≤ 1 then T_X2_bestBag_L51 FU a0 a1 a2 ((-9)) 61 0 σ else T_X2_bestBag_j33 σ))
def T_X2_hers_L23  : Nat → Int32 → Int32 → ST → Option (Int32 × ST)
  | 0, _, _, _ => none
  | n + 1, v1, v2, σ => if 60 < v2 then some ((-9), σ) else cV (T_X0_isLed 2 σ v1) (fun x1 => if x1 = 0 then cV (T_X0_goHours 2 1 σ) (fun σ4 => vl (v2 + 1) (fun x5 => T_X2_hers_L23 n v1 x5 σ4)) else some (v2, σ))
def T_X2_hers (a0 : Int32) (σ : ST) : Option (Int32 × ST) := cV (T_X0_hasBearer 1 σ a0) (fun x1 => if x1 = 0 then cI (T_X2_refuse ((-1)) σ) (fun x5 σ6 => some (x5, σ6)) else cV (T_X2_think σ) (fun σ4 => T_X2_hers_L23 FU a0 0 σ4))
def T_X2_errand_j18  (σ : ST) : Option (Int32 × ST) := cI (T_X2_refuse ((-1)) σ) (fun x1 σ2 => some (x1, σ2))
def T_X2_errand (a0 : Int32) (a1 : Int32) (σ : ST) : Option (Int32 × ST) := cV (T_X0_hasBearer 1 σ a0) (fun x1 => if x1 = 0 then T_X2_errand_j18 σ else cV (T_X2_isPlace σ a1) (fun x3 => if x3 = 0 then T_X2_errand_j18 σ else cV (T_X2_think σ) (fun σ6 => sd σ6 2 9 5 a0 a1 (fun σ7 => cI (T_X2_firstAt a0 a1 60 σ7) (fun x8 σ9 => cV (T_X2_orNone σ9 x8) (fun x10 => some (x10, σ9)))))))
def T_X2_defy_j18  (σ : ST) : Option (Int32 × ST) := cI (T_X2_refuse ((-1)) σ) (fun x1 σ2 => some (x1, σ2))
def T_X2_defy_L45  : Nat → Int32 → Int32 → Int32 → Int32 → ST → Option (Int32 × ST)
  | 0, _, _, _, _, _ => none
  | n + 1, v1, v2, v3, v5, σ => if 10 ≤ v5 then some ((-9), σ) else cV (T_X2_think σ) (fun σ2 => sd σ2 2 9 5 v1 v2 (fun σ3 => sd σ3 2 8 5 v1 v5 (fun σ4 => cI (T_X2_firstAt v1 v2 v3 σ4) (fun x5 σ6 => if v3 < x5 then vl (v5 + 1) (fun x7 => T_X2_defy_L45 n v1 v2 v3 x7 σ6) else some (v5, σ6)))))
def T_X2_defy (a0 : Int32) (a1 : Int32) (a2 : Int32) (σ : ST) : Option (Int32 × ST) := cV (T_X0_hasBearer 1 σ a0) (fun x1 => if x1 = 0 then T_X2_defy_j18 σ else cV (T_X2_isPlace σ a1) (fun x3 => if x3 = 0 then T_X2_defy_j18 σ else cV (T_X2_wrongHours σ a2) (fun x5 => if x5 = 0 then T_X2_defy_L45 FU a0 a1 a2 0 σ else cI (T_X2_refuse x5 σ) (fun x7 σ8 => some (x7, σ8)))))
def T_X2_bestHabit_j18  (σ : ST) : Option (Int32 × ST) := cI (T_X2_refuse ((-1)) σ) (fun x1 σ2 => some (x1, σ2))
def T_X2_bestHabit_L59  : Nat → Int32 → Int32 → Int32 → Int32 → Int32 → Int32 → ST → Option (Int32 × ST)
  | 0, _, _, _, _, _, _, _ => none
  | n + 1, v1, v2, v3, v4, v5, v6, σ => if 10 ≤ v6 then some (v4, σ) else cV (T_X2_think σ) (fun σ2 => sd σ2 2 3 6 v1 v6 (fun σ3 => cI (T_X2_firstAt v3 v2 (v5 - 1) σ3) (fun x4 σ5 => if v5 ≤ x4 then vl (v6 + 1) (fun x6 => T_X2_bestHabit_L59 n v1 v2 v3 v4 v5 x6 σ5) else vl (v6 + 1) (fun x7 => T_X2_bestHabit_L59 n v1 v2 v3 v6 x4 x7 σ5))))
def T_X2_bestHabit (a0 : Int32) (a1 : Int32) (σ : ST) : Option (Int32 × ST) := cV (T_X0_hasBag 1 σ a0) (fun x1 => if x1 = 0 then T_X2_bestHabit_j18 σ else cV (T_X2_isPlace σ a1) (fun x3 => if x3 = 0 then T_X2_bestHabit_j18 σ else ld σ 1 6 6 a0 (fun x5 => cV (T_X0_hasBearer 1 σ x5) (fun x6 => if x6 = 0 then some ((-9), σ) else T_X2_bestHabit_L59 FU a0 a1 x5 ((-9)) 61 0 σ))))
def T_X2_tamed_L48  : Nat → Int32 → Int32 → Int32 → ST → Option (Int32 × ST)
  | 0, _, _, _, _ => none
  | n + 1, v1, v2, v3, σ => if v3 < 0 then some ((-9), σ) else sd σ 2 2 6 v1 v3 (fun σ1 => cV (T_X0_isLed 2 σ1 v2) (fun x2 => if x2 = 0 then some (v3, σ1) else vl (v3 + (-1)) (fun x4 => T_X2_tamed_L48 n v1 v2 x4 σ1)))
def T_X2_tamed (a0 : Int32) (σ : ST) : Option (Int32 × ST) := cV (T_X0_hasBag 1 σ a0) (fun x1 => if x1 = 0 then cI (T_X2_refuse ((-1)) σ) (fun x8 σ9 => some (x8, σ9)) else ld σ 1 6 6 a0 (fun x3 => cV (T_X0_hasBearer 1 σ x3) (fun x4 => if x4 = 0 then some ((-9), σ) else cV (T_X2_think σ) (fun σ7 => T_X2_tamed_L48 FU a0 x3 9 σ7))))
def T_X2_swap_L60 (K42 : Int32 → Int32 → Int32 → Int32 → ST → Option (Int32 × ST)) : Nat → Int32 → Int32 → Int32 → Int32 → Int32 → ST → Option (Int32 × ST)
  | 0, _, _, _, _, _, _ => none
  | n + 1, v1, v3, v4, v5, v6, σ => gf σ 1 7 (fun x1 => if x1 ≤ v6 then vl (v5 + 1) (fun x2 => K42 v1 v3 v4 x2 σ) else cV (T_X2_think σ) (fun σ4 => cV (T_X0_changeBags 2 v5 v6 σ4) (fun σ6 => cV (T_X0_goHours 2 v1 σ6) (fun σ8 => cV (T_X0_allLedHours 2 σ8) (fun x9 => if v3 ≤ x9 then vl (v6 + 1) (fun x11 => T_X2_swap_L60 K42 n v1 v3 v4 v5 x11 σ8) else cV (T_X0_allLedHours 2 σ8) (fun x12 => vl ((10 * v5) + v6) (fun x14 => vl (v6 + 1) (fun x15 => T_X2_swap_L60 K42 n v1 x12 x14 v5 x15 σ8))))))))
def T_X2_swap_L42  : Nat → Int32 → Int32 → Int32 → Int32 → ST → Option (Int32 × ST)
  | 0, _, _, _, _, _ => none
  | n + 1, v1, v3, v4, v5, σ => gf σ 1 7 (fun x1 => if x1 ≤ v5 then some (v4, σ) else vl (v5 + 1) (fun x2 => T_X2_swap_L60 (fun v1 v3 v4 v5 s => T_X2_swap_L42 n v1 v3 v4 v5 s) FU v1 v3 v4 v5 x2 σ))
def T_X2_swap (a0 : Int32) (σ : ST) : Option (Int32 × ST) := cV (T_X2_wrongHours σ a0) (fun x1 => if x1 = 0 then cV (T_X2_think σ) (fun σ4 => cV (T_X0_goHours 2 a0 σ4) (fun σ6 => cV (T_X0_allLedHours 2 σ6) (fun x7 => T_X2_swap_L42 FU a0 x7 ((-9)) 0 σ6))) else cI (T_X2_refuse x1 σ) (fun x9 σ10 => some (x9, σ10)))
def T_X2_strongestWilled_L5 (σ : ST) : Nat → Int32 → Int32 → Option Int32
  | 0, _, _ => none
  | n + 1, v1, v2 => gf σ 1 7 (fun x1 => if x1 ≤ v2 then some v1 else ld σ 1 11 5 v2 (fun x2 => if 0 ≤ x2 then vl (v2 + 1) (fun x3 => T_X2_strongestWilled_L5 σ n v1 x3) else if v1 < 0 then vl (v2 + 1) (fun x4 => T_X2_strongestWilled_L5 σ n v2 x4) else ld σ 1 8 5 v2 (fun x5 => ld σ 1 8 5 v1 (fun x6 => if x5 ≤ x6 then vl (v2 + 1) (fun x7 => T_X2_strongestWilled_L5 σ n v1 x7) else vl (v2 + 1) (fun x8 => T_X2_strongestWilled_L5 σ n v2 x8)))))
def T_X2_strongestWilled (σ : ST) : Option Int32 := T_X2_strongestWilled_L5 σ FU ((-9)) 0
def T_X2_strongestBag_L5 (σ : ST) : Nat → Int32 → Int32 → Option Int32
  | 0, _, _ => none
  | n + 1, v1, v2 => gf σ 1 0 (fun x1 => if x1 ≤ v2 then some v1 else if v1 < 0 then vl (v2 + 1) (fun x2 => T_X2_strongestBag_L5 σ n v2 x2) else cV (T_X0_pullOf 1 σ v2) (fun x3 => cV (T_X0_pullOf 1 σ v1) (fun x5 => if x3 ≤ x5 then vl (v2 + 1) (fun x7 => T_X2_strongestBag_L5 σ n v1 x7) else vl (v2 + 1) (fun x8 => T_X2_strongestBag_L5 σ n v2 x8))))
def T_X2_strongestBag (σ : ST) : Option Int32 := T_X2_strongestBag_L5 σ FU ((-9)) 0
def T_X2_heir_j9  (σ : ST) : Option (Int32 × ST) := cI (T_X2_refuse ((-2)) σ) (fun x1 σ2 => some (x1, σ2))
def T_X2_heir (a0 : Int32) (σ : ST) : Option (Int32 × ST) := if a0 < 0 then T_X2_heir_j9 σ else if a0 ≤ 1 then if a0 = 0 then cV (T_X2_strongestWilled σ) (fun x3 => some (x3, σ)) else cV (T_X2_strongestBag σ) (fun x1 => some (x1, σ)) else T_X2_heir_j9 σ
def T_X2_far_j22  (σ : ST) : Option (Int32 × ST) := cI (T_X2_refuse ((-1)) σ) (fun x1 σ2 => some (x1, σ2))
def T_X2_far (a0 : Int32) (a1 : Int32) (σ : ST) : Option (Int32 × ST) := cV (T_X0_hasBearer 1 σ a0) (fun x1 => if x1 = 0 then T_X2_far_j22 σ else cV (T_X0_hasBearer 1 σ a1) (fun x3 => if x3 = 0 then T_X2_far_j22 σ else ld σ 1 10 5 a0 (fun x5 => ld σ 1 10 5 a1 (fun x6 => cV (T_X2_placesApart σ x5 x6) (fun x7 => some (x7, σ))))))
def T_X2_lots_j34  (σ : ST) : Option (Int32 × ST) := cI (T_X2_refuse ((-2)) σ) (fun x1 σ2 => some (x1, σ2))
def T_X2_lots_L63 (K50 : Int32 → Int32 → Int32 → Int32 → Int32 → ST → Option (Int32 × ST)) : Nat → Int32 → Int32 → Int32 → Int32 → Int32 → Int32 → ST → Option (Int32 × ST)
  | 0, _, _, _, _, _, _, _ => none
  | n + 1, v1, v3, v4, v5, v6, v7, σ => gf σ 2 7 (fun x1 => if x1 ≤ v7 then cV (T_X0_goHours 2 24 σ) (fun σ3 => if v3 = 0 then cV (T_X0_allLedHours 2 σ3) (fun x7 => vl (v5 + x7) (fun x9 => vl (v6 + 1) (fun x10 => K50 v1 v3 v4 x9 x10 σ3))) else gf σ3 2 17 (fun x4 => vl (v5 + x4) (fun x5 => vl (v6 + 1) (fun x6 => K50 v1 v3 v4 x5 x6 σ3)))) else vl ((v4 * 1103515245) + 12345) (fun x11 => sd σ 2 9 5 v7 (((x11 &&& 2147483647) / 65536) - ((x11 &&& 2147483647) / 65536) / 10 * 10) (fun σ12 => vl (v7 + 1) (fun x13 => T_X2_lots_L63 K50 n v1 v3 x11 v5 v6 x13 σ12))))
def T_X2_lots_L50  : Nat → Int32 → Int32 → Int32 → Int32 → Int32 → ST → Option (Int32 × ST)
  | 0, _, _, _, _, _, _ => none
  | n + 1, v1, v3, v4, v5, v6, σ => if v1 ≤ v6 then some (v5, σ) else cV (T_X2_think σ) (fun σ2 => T_X2_lots_L63 (fun v1 v3 v4 v5 v6 s => T_X2_lots_L50 n v1 v3 v4 v5 v6 s) FU v1 v3 v4 v5 v6 0 σ2)
def T_X2_lots (a0 : Int32) (a1 : Int32) (a2 : Int32) (σ : ST) : Option (Int32 × ST) := if 1 ≤ a0 then if a0 ≤ 20 then if a2 < 0 then T_X2_lots_j34 σ else if a2 ≤ 1 then T_X2_lots_L50 FU a0 a2 a1 0 0 σ else T_X2_lots_j34 σ else cI (T_X2_refuse ((-6)) σ) (fun x1 σ2 => some (x1, σ2)) else cI (T_X2_refuse ((-4)) σ) (fun x3 σ4 => some (x3, σ4))
def T_X2_thinkGiven_L13  : Nat → Int32 → ST → Option ST
  | 0, _, _ => none
  | n + 1, v1, σ => gf σ 2 7 (fun x1 => if x1 ≤ v1 then some σ else cV (T_X1_choiceOf σ v1) (fun x2 => cI (T_X0_hand 2 x2 v1 σ) (fun x4 σ5 => vl (v1 + 1) (fun x6 => T_X2_thinkGiven_L13 n x6 σ5))))
def T_X2_thinkGiven (σ : ST) : Option ST := cV (T_X2_think σ) (fun σ2 => cV (T_X0_takeAllBags 2 σ2) (fun σ4 => T_X2_thinkGiven_L13 FU 0 σ4))
def T_X2_given_L73  : Nat → Int32 → Int32 → Int32 → Int32 → Int32 → ST → Option (Int32 × ST)
  | 0, _, _, _, _, _, _ => none
  | n + 1, v1, v2, v3, v4, v5, σ => gf σ 12 4 (fun x1 => if x1 ≤ v5 then if v3 = ((-1)) then cV (T_X2_orNone σ v4) (fun x4 => some (x4, σ)) else cV (T_X1_bestBagOf σ v3) (fun x2 => some (x2, σ)) else cI (T_X1_decode v5 σ) (fun x6 σ7 => if x6 = 0 then vl (v5 + 1) (fun x8 => T_X2_given_L73 n v1 v2 v3 v4 x8 σ7) else cV (T_X2_thinkGiven σ7) (fun σ10 => cV (T_J9_min_7cf53 σ10 (v4 - 1) 60) (fun x11 => cI (T_X2_firstMeeting v1 v2 x11 σ10) (fun x13 σ14 => if v4 ≤ x13 then vl (v5 + 1) (fun x15 => T_X2_given_L73 n v1 v2 v3 v4 x15 σ14) else cV (T_X1_keepBest σ14) (fun σ17 => vl (v5 + 1) (fun x18 => T_X2_given_L73 n v1 v2 v3 x13 x18 σ17)))))))
def T_X2_given (a0 : Int32) (a1 : Int32) (a2 : Int32) (σ : ST) : Option (Int32 × ST) := cV (T_X2_areTwo σ a0 a1) (fun x1 => if x1 = 0 then cI (T_X2_refuse ((-1)) σ) (fun x12 σ13 => some (x12, σ13)) else if ((-1)) ≤ a2 then gf σ 1 7 (fun x3 => if x3 ≤ 4 then gf σ 1 0 (fun x4 => gf σ 1 7 (fun x5 => cV (T_X1_start x4 x5 σ) (fun σ7 => T_X2_given_L73 FU a0 a1 a2 62 0 σ7))) else cI (T_X2_refuse ((-3)) σ) (fun x8 σ9 => some (x8, σ9))) else cI (T_X2_refuse ((-4)) σ) (fun x10 σ11 => some (x10, σ11)))
def T_X2_ledHoursBelow_j32  (σ : ST) : Option (Int32 × ST) := cV (T_X0_allLedHours 2 σ) (fun x1 => some (x1, σ))
def T_X2_ledHoursBelow_L2  : Nat → Int32 → Int32 → Int32 → ST → Option (Int32 × ST)
  | 0, _, _, _, _ => none
  | n + 1, v1, v2, v3, σ => if v1 ≤ v3 then T_X2_ledHoursBelow_j32 σ else cV (T_X0_allLedHours 2 σ) (fun x1 => if v2 ≤ x1 then T_X2_ledHoursBelow_j32 σ else cV (T_X0_goHours 2 1 σ) (fun σ4 => vl (v3 + 1) (fun x5 => T_X2_ledHoursBelow_L2 n v1 v2 x5 σ4)))
def T_X2_ledHoursBelow (a0 : Int32) (a1 : Int32) (σ : ST) : Option (Int32 × ST) := T_X2_ledHoursBelow_L2 FU a0 a1 0 σ
def T_X2_quiet_j9  (σ : ST) : Option (Int32 × ST) := cI (T_X2_refuse ((-4)) σ) (fun x1 σ2 => some (x1, σ2))
def T_X2_quiet_L74  : Nat → Int32 → Int32 → Int32 → Int32 → ST → Option (Int32 × ST)
  | 0, _, _, _, _, _ => none
  | n + 1, v1, v2, v3, v4, σ => gf σ 12 4 (fun x1 => if x1 ≤ v4 then if v2 = ((-1)) then some (v3, σ) else cV (T_X1_bestBagOf σ v2) (fun x2 => some (x2, σ)) else cI (T_X1_decode v4 σ) (fun x4 σ5 => if x4 = 0 then vl (v4 + 1) (fun x6 => T_X2_quiet_L74 n v1 v2 v3 x6 σ5) else cV (T_X2_thinkGiven σ5) (fun σ8 => cI (T_X2_ledHoursBelow v1 v3 σ8) (fun x9 σ10 => if v3 ≤ x9 then vl (v4 + 1) (fun x11 => T_X2_quiet_L74 n v1 v2 v3 x11 σ10) else cV (T_X1_keepBest σ10) (fun σ13 => vl (v4 + 1) (fun x14 => T_X2_quiet_L74 n v1 v2 x9 x14 σ13))))))
def T_X2_quiet (a0 : Int32) (a1 : Int32) (σ : ST) : Option (Int32 × ST) := if a1 < ((-1)) then T_X2_quiet_j9 σ else if 0 ≤ a0 then if a0 ≤ 60 then gf σ 1 7 (fun x1 => if x1 ≤ 4 then gf σ 1 0 (fun x2 => gf σ 1 7 (fun x3 => cV (T_X1_start x2 x3 σ) (fun σ5 => T_X2_quiet_L74 FU a0 a1 1000000 0 σ5))) else cI (T_X2_refuse ((-3)) σ) (fun x6 σ7 => some (x6, σ7))) else cI (T_X2_refuse ((-6)) σ) (fun x8 σ9 => some (x8, σ9)) else T_X2_quiet_j9 σ
def T_X2_stable (a0 : Int32) (σ : ST) : Option (Int32 × ST) := cV (T_X0_hasBearer 1 σ a0) (fun x1 => if x1 = 0 then cI (T_X2_refuse ((-1)) σ) (fun x7 σ8 => some (x7, σ8)) else cV (T_X0_rankOfBearer 1 σ a0) (fun x3 => cV (T_X0_bagRanked 1 σ x3) (fun x5 => some (x5, σ))))
def T_X2_unled_L4 (σ : ST) : Nat → Int32 → Int32 → Option Int32
  | 0, _, _ => none
  | n + 1, v1, v2 => gf σ 1 7 (fun x1 => if x1 ≤ v2 then some v1 else cV (T_X0_bearerRanked 1 σ v2) (fun x2 => cV (T_X0_bagRanked 1 σ v1) (fun x4 => if x2 < 0 then vl (v2 + 1) (fun x6 => T_X2_unled_L4 σ n v1 x6) else if x4 < 0 then vl (v2 + 1) (fun x7 => T_X2_unled_L4 σ n v1 x7) else cV (T_X0_plainPullOf 1 σ x4) (fun x8 => ld σ 1 8 5 x2 (fun x10 => if x10 < x8 then vl (v2 + 1) (fun x11 => T_X2_unled_L4 σ n v1 x11) else vl (v1 + 1) (fun x12 => vl (v2 + 1) (fun x13 => T_X2_unled_L4 σ n x12 x13)))))))
def T_X2_unled (σ : ST) : Option Int32 := T_X2_unled_L4 σ FU 0 0
def T_X2_row_j26  (σ : ST) : Option (Int32 × ST) := cI (T_X2_refuse ((-6)) σ) (fun x1 σ2 => some (x1, σ2))
def T_X2_row (a0 : Int32) (σ : ST) : Option (Int32 × ST) := if 0 ≤ a0 then if 99 < a0 then T_X2_row_j26 σ else gf σ 0 9 (fun x1 => if x1 < 12 then gf σ 0 9 (fun x2 => sd σ 0 8 12 x2 a0 (fun σ3 => gf σ3 0 9 (fun x4 => pf σ3 0 9 (x4 + 1) (fun σ5 => gf σ5 0 9 (fun x6 => some (x6, σ5)))))) else T_X2_row_j26 σ) else cI (T_X2_refuse ((-4)) σ) (fun x7 σ8 => some (x7, σ8))
def T_X2_firstUntrue_L2  : Nat → Int32 → Int32 → ST → Option (Int32 × ST)
  | 0, _, _, _ => none
  | n + 1, v1, v2, σ => gf σ 0 9 (fun x1 => if x1 ≤ v2 then some ((-9), σ) else ld σ 0 8 12 v2 (fun x2 => ld σ 2 10 5 v1 (fun x3 => if x2 = x3 then cV (T_X0_goHours 2 1 σ) (fun σ5 => vl (v2 + 1) (fun x6 => T_X2_firstUntrue_L2 n v1 x6 σ5)) else some (v2, σ))))
def T_X2_firstUntrue (a0 : Int32) (σ : ST) : Option (Int32 × ST) := T_X2_firstUntrue_L2 FU a0 0 σ
def T_X2_judge (a0 : Int32) (σ : ST) : Option (Int32 × ST) := cV (T_X0_hasBearer 1 σ a0) (fun x1 => if x1 = 0 then cI (T_X2_refuse ((-1)) σ) (fun x8 σ9 => some (x8, σ9)) else cV (T_X2_think σ) (fun σ4 => cI (T_X2_firstUntrue a0 σ4) (fun x5 σ6 => pf σ6 0 9 0 (fun σ7 => some (x5, σ7)))))
def T_X2_clear (σ : ST) : Option (Int32 × ST) := gf σ 0 9 (fun x1 => pf σ 0 9 0 (fun σ2 => some (x1, σ2)))
def T_X2_whose_j26  (σ : ST) : Option (Int32 × ST) := cI (T_X2_refuse ((-2)) σ) (fun x1 σ2 => some (x1, σ2))
def T_X2_whose_j153 (K75 : Int32 → Int32 → Int32 → Int32 → Int32 → Int32 → ST → Option (Int32 × ST)) (v1 : Int32) (v2 : Int32) (v3 : Int32) (v4 : Int32) (v5 : Int32) (v6 : Int32) (σ : ST) : Option (Int32 × ST) := cI (T_X2_firstUntrue v1 σ) (fun x1 σ2 => if 0 ≤ x1 then vl (v6 + 1) (fun x3 => K75 v1 v2 v3 v4 v5 x3 σ2) else vl (v5 ||| (1 <<< (v6 &&& 31))) (fun x4 => vl (v6 + 1) (fun x5 => K75 v1 v2 v3 v4 x4 x5 σ2)))
def T_X2_whose_L75  : Nat → Int32 → Int32 → Int32 → Int32 → Int32 → Int32 → ST → Option (Int32 × ST)
  | 0, _, _, _, _, _, _, _ => none
  | n + 1, v1, v2, v3, v4, v5, v6, σ => if v4 ≤ v6 then some (v5, σ) else cV (T_X2_think σ) (fun σ2 => if v2 = 0 then sd σ2 2 1 6 v3 v6 (fun σ6 => T_X2_whose_j153 (fun v1 v2 v3 v4 v5 v6 s => T_X2_whose_L75 n v1 v2 v3 v4 v5 v6 s) v1 v2 v3 v4 v5 v6 σ6) else if v2 = 1 then sd σ2 2 2 6 v3 v6 (fun σ5 => T_X2_whose_j153 (fun v1 v2 v3 v4 v5 v6 s => T_X2_whose_L75 n v1 v2 v3 v4 v5 v6 s) v1 v2 v3 v4 v5 v6 σ5) else if v2 = 2 then sd σ2 2 3 6 v3 v6 (fun σ4 => T_X2_whose_j153 (fun v1 v2 v3 v4 v5 v6 s => T_X2_whose_L75 n v1 v2 v3 v4 v5 v6 s) v1 v2 v3 v4 v5 v6 σ4) else sd σ2 2 8 5 v1 v6 (fun σ3 => T_X2_whose_j153 (fun v1 v2 v3 v4 v5 v6 s => T_X2_whose_L75 n v1 v2 v3 v4 v5 v6 s) v1 v2 v3 v4 v5 v6 σ3))
def T_X2_whose (a0 : Int32) (a1 : Int32) (σ : ST) : Option (Int32 × ST) := cV (T_X0_hasBearer 1 σ a0) (fun x1 => if x1 = 0 then cI (T_X2_refuse ((-1)) σ) (fun x6 σ7 => some (x6, σ7)) else if a1 < 0 then T_X2_whose_j26 σ else if a1 ≤ 3 then ld σ 1 11 5 a0 (fun x3 => cV (T_X0_hasBag 1 σ x3) (fun x4 => if x4 = 0 then some (0, σ) else if a1 = 0 then T_X2_whose_L75 FU a0 a1 x3 6 0 0 σ else T_X2_whose_L75 FU a0 a1 x3 10 0 0 σ)) else T_X2_whose_j26 σ)
def T_J6_bitCount_0f7a4 (σ : ST) (a0 : Int32) : Option Int32 := vl (a0 - (((a0.toUInt32 >>> ((1 : Int32).toUInt32 &&& Int32.toUInt32 31)).toInt32) &&& 1431655765)) (fun x1 => vl ((x1 &&& 858993459) + (((x1.toUInt32 >>> ((2 : Int32).toUInt32 &&& Int32.toUInt32 31)).toInt32) &&& 858993459)) (fun x2 => vl ((x2 + ((x2.toUInt32 >>> ((4 : Int32).toUInt32 &&& Int32.toUInt32 31)).toInt32)) &&& 252645135) (fun x3 => vl (x3 + ((x3.toUInt32 >>> ((8 : Int32).toUInt32 &&& Int32.toUInt32 31)).toInt32)) (fun x4 => vl (x4 + ((x4.toUInt32 >>> ((16 : Int32).toUInt32 &&& Int32.toUInt32 31)).toInt32)) (fun x5 => some (x5 &&& 63))))))
def T_X2_placesByKinds_L6  : Nat → Int32 → Int32 → Int32 → Int32 → Int32 → Int32 → ST → Option (Int32 × ST)
  | 0, _, _, _, _, _, _, _ => none
  | n + 1, v1, v2, v3, v4, v5, v6, σ => if 6 ≤ v6 then cV (T_J6_bitCount_0f7a4 σ v5) (fun x1 => some (x1, σ)) else cV (T_X2_think σ) (fun σ4 => pf σ4 2 13 v4 (fun σ5 => sd σ5 2 1 6 v2 v6 (fun σ6 => cV (T_X0_goHours 2 v3 σ6) (fun σ8 => ld σ8 2 10 5 v1 (fun x9 => vl (v5 ||| (1 <<< (x9 &&& 31))) (fun x10 => vl (v6 + 1) (fun x11 => T_X2_placesByKinds_L6 n v1 v2 v3 v4 x10 x11 σ8)))))))
def T_X2_placesByKinds (a0 : Int32) (a1 : Int32) (a2 : Int32) (a3 : Int32) (σ : ST) : Option (Int32 × ST) := T_X2_placesByKinds_L6 FU a0 a1 a2 a3 0 0 σ
def T_X2_nextTell_L71  : Nat → Int32 → Int32 → Int32 → Int32 → Int32 → Int32 → Int32 → ST → Option (Int32 × ST)
  | 0, _, _, _, _, _, _, _, _ => none
  | n + 1, v1, v2, v3, v5, v6, v7, v8, σ => if 10 ≤ v8 then if v3 = 0 then some (v6, σ) else some (v7, σ) else cI (T_X2_placesByKinds v1 v5 v2 v8 σ) (fun x1 σ2 => if x1 ≤ v7 then vl (v8 + 1) (fun x3 => T_X2_nextTell_L71 n v1 v2 v3 v5 v6 v7 x3 σ2) else vl (v8 + 1) (fun x4 => T_X2_nextTell_L71 n v1 v2 v3 v5 v8 x1 x4 σ2))
def T_X2_nextTell (a0 : Int32) (a1 : Int32) (a2 : Int32) (σ : ST) : Option (Int32 × ST) := cV (T_X0_hasBearer 1 σ a0) (fun x1 => if x1 = 0 then cI (T_X2_refuse ((-1)) σ) (fun x10 σ11 => some (x10, σ11)) else cV (T_X2_wrongHoursOrWhat σ a1 a2 1) (fun x3 => if x3 = 0 then ld σ 1 11 5 a0 (fun x5 => cV (T_X0_hasBag 1 σ x5) (fun x6 => if x6 = 0 then some (a2, σ) else T_X2_nextTell_L71 FU a0 a1 a2 x5 0 0 0 σ)) else cI (T_X2_refuse x3 σ) (fun x8 σ9 => some (x8, σ9))))
def T_X2_arm_L58  : Nat → Int32 → Int32 → Int32 → Int32 → ST → Option (Int32 × ST)
  | 0, _, _, _, _, _ => none
  | n + 1, v1, v2, v3, v5, σ => if v3 ≤ v5 then ld σ 2 10 5 v1 (fun x1 => some (x1, σ)) else cV (T_X0_goArmInArm 2 v1 v2 σ) (fun σ3 => vl (v5 + 1) (fun x4 => T_X2_arm_L58 n v1 v2 v3 x4 σ3))
def T_X2_arm (a0 : Int32) (a1 : Int32) (a2 : Int32) (σ : ST) : Option (Int32 × ST) := cV (T_X2_areTwo σ a0 a1) (fun x1 => if x1 = 0 then cI (T_X2_refuse ((-1)) σ) (fun x11 σ12 => some (x11, σ12)) else cV (T_X2_wrongHours σ a2) (fun x3 => if x3 = 0 then cV (T_X2_think σ) (fun σ6 => ld σ6 2 10 5 a0 (fun x7 => sd σ6 2 10 5 a1 x7 (fun σ8 => T_X2_arm_L58 FU a0 a1 a2 0 σ8))) else cI (T_X2_refuse x3 σ) (fun x9 σ10 => some (x9, σ10))))
def T_X2_wrongSleep (σ : ST) (a0 : Int32) (a1 : Int32) (a2 : Int32) (a3 : Int32) (a4 : Int32) : Option Int32 := cV (T_X0_hasBearer 1 σ a0) (fun x1 => if x1 = 0 then some ((-1)) else cV (T_X2_isPlace σ a1) (fun x3 => if x3 = 0 then some ((-1)) else if a2 < 0 then some ((-4)) else if 2 ≤ a3 then if 8 < a2 then some ((-6)) else if a3 ≤ 20 then if a4 < 0 then some ((-2)) else if a4 ≤ 1 then some 0 else some ((-2)) else some ((-6)) else some ((-4))))
def T_X2_walkAsleep_j67 (K10 : Int32 → Int32 → Int32 → Int32 → Int64 → Int32 → ST → Option (Int64 × ST)) (v1 : Int32) (v2 : Int32) (v3 : Int32) (v4 : Int32) (v7 : Int32) (s0 : Int64) (s1 : Int64) (σ : ST) : Option (Int64 × ST) := vL (s1 * s0) (fun x1 => cV (T_X0_goHours 2 1 σ) (fun σ3 => vl (v7 + 1) (fun x4 => K10 v1 v2 v3 v4 x1 x4 σ3)))
def T_X2_walkAsleep_j49 (K10 : Int32 → Int32 → Int32 → Int32 → Int64 → Int32 → ST → Option (Int64 × ST)) (v1 : Int32) (v2 : Int32) (v3 : Int32) (v4 : Int32) (v5 : Int64) (v7 : Int32) (v8 : Int32) (s0 : Int32) (σ : ST) : Option (Int64 × ST) := pf σ 2 18 s0 (fun σ1 => if v8 = 0 then T_X2_walkAsleep_j67 K10 v1 v2 v3 v4 v7 ((v3 - 1).toInt64) v5 σ1 else T_X2_walkAsleep_j67 K10 v1 v2 v3 v4 v7 1 v5 σ1)
def T_X2_walkAsleep_j32 (K10 : Int32 → Int32 → Int32 → Int32 → Int64 → Int32 → ST → Option (Int64 × ST)) (v1 : Int32) (v2 : Int32) (v3 : Int32) (v4 : Int32) (v5 : Int64) (v7 : Int32) (s0 : Int32) (σ : ST) : Option (Int64 × ST) := if s0 = 0 then T_X2_walkAsleep_j49 K10 v1 v2 v3 v4 v5 v7 s0 ((-9)) σ else T_X2_walkAsleep_j49 K10 v1 v2 v3 v4 v5 v7 s0 v1 σ
def T_X2_walkAsleep_L10  : Nat → Int32 → Int32 → Int32 → Int32 → Int64 → Int32 → ST → Option (Int64 × ST)
  | 0, _, _, _, _, _, _, _ => none
  | n + 1, v1, v2, v3, v4, v5, v7, σ => if v2 ≤ v7 then some (v5, σ) else if ((v4 >>> (v7 &&& 31)) &&& 1) = 1 then T_X2_walkAsleep_j32 (fun v1 v2 v3 v4 v5 v7 s => T_X2_walkAsleep_L10 n v1 v2 v3 v4 v5 v7 s) v1 v2 v3 v4 v5 v7 1 σ else T_X2_walkAsleep_j32 (fun v1 v2 v3 v4 v5 v7 s => T_X2_walkAsleep_L10 n v1 v2 v3 v4 v5 v7 s) v1 v2 v3 v4 v5 v7 0 σ
def T_X2_walkAsleep (a0 : Int32) (a1 : Int32) (a2 : Int32) (a3 : Int32) (σ : ST) : Option (Int64 × ST) := cV (T_X2_think σ) (fun σ2 => T_X2_walkAsleep_L10 FU a0 a1 a2 a3 1 0 σ2)
def T_X2_commonDivisor_L9 (σ : ST) : Nat → Int64 → Int64 → Int32 → Option Int64
  | 0, _, _, _ => none
  | n + 1, v4, v6, v8 => if 100 ≤ v8 then some v4 else if (lg_cmp v6 0) = 0 then some v4 else nzl v6 (vL (v4 - v4 / v6 * v6) (fun x1 => vl (v8 + 1) (fun x2 => T_X2_commonDivisor_L9 σ n v6 x1 x2)))
def T_X2_commonDivisor (σ : ST) (a0 : Int64) (a1 : Int64) : Option Int64 := T_X2_commonDivisor_L9 σ FU a0 a1 0
def T_X2_sleep_L62  : Nat → Int32 → Int32 → Int32 → Int32 → Int32 → Int64 → Int64 → Int32 → ST → Option (Int64 × ST)
  | 0, _, _, _, _, _, _, _, _, _ => none
  | n + 1, v1, v2, v3, v4, v5, v7, v9, v11, σ => if (1 <<< (v3 &&& 31)) ≤ v11 then cV (T_X2_commonDivisor σ v9 v7) (fun x1 => if 0 ≤ (lg_cmp x1 1) then if v5 = 0 then nzl x1 (some (v9 / x1, σ)) else nzl x1 (some (v7 / x1, σ)) else some ((-9), σ)) else cJ (T_X2_walkAsleep v1 v3 v4 v11 σ) (fun x3 σ4 => ld σ4 2 10 5 v1 (fun x5 => if x5 = v2 then vL (v9 + x3) (fun x7 => vl (v11 + 1) (fun x8 => T_X2_sleep_L62 n v1 v2 v3 v4 v5 v7 x7 x8 σ4)) else vl (v11 + 1) (fun x6 => T_X2_sleep_L62 n v1 v2 v3 v4 v5 v7 v9 x6 σ4)))
def T_X2_sleep_L36  : Nat → Int32 → Int32 → Int32 → Int32 → Int32 → Int64 → Int32 → ST → Option (Int64 × ST)
  | 0, _, _, _, _, _, _, _, _ => none
  | n + 1, v1, v2, v3, v4, v5, v7, v9, σ => if v3 ≤ v9 then T_X2_sleep_L62 FU v1 v2 v3 v4 v5 v7 0 0 σ else vL (v7 * v4.toInt64) (fun x1 => vl (v9 + 1) (fun x2 => T_X2_sleep_L36 n v1 v2 v3 v4 v5 x1 x2 σ))
def T_X2_sleep (a0 : Int32) (a1 : Int32) (a2 : Int32) (a3 : Int32) (a4 : Int32) (σ : ST) : Option (Int64 × ST) := cV (T_X2_wrongSleep σ a0 a1 a2 a3 a4) (fun x1 => if x1 = 0 then T_X2_sleep_L36 FU a0 a1 a2 a3 a4 1 0 σ else cI (T_X2_refuse x1 σ) (fun x3 σ4 => some (4000000000000000000 - x3.toInt64, σ4)))
def T_X3_no (a0 : Int32) (σ : ST) : Option (Int32 × ST) := vl (-a0) (fun x1 => ld σ 13 0 7 x1 (fun x2 => sd σ 13 0 7 x1 (x2 + 1) (fun σ3 => some (a0, σ3))))
def T_X3_lowest (a0 : Int32) (σ : ST) : Option (Int64 × ST) := vl (-a0) (fun x1 => ld σ 13 0 7 x1 (fun x2 => sd σ 13 0 7 x1 (x2 + 1) (fun σ3 => some (4000000000000000000 - a0.toInt64, σ3))))
def T_X3_isIn (σ : ST) (a0 : Int32) (a1 : Int32) (a2 : Int32) : Option Int32 := if a0 < a1 then some 0 else if a2 < a0 then some 0 else some 1
def T_X3_bound (σ : ST) (a0 : Int32) (a1 : Int32) (a2 : Int32) : Option Int32 := if a1 ≤ a0 then if a0 ≤ a2 then some 0 else some ((-6)) else some ((-4))
def T_X3_isBag (σ : ST) (a0 : Int32) : Option Int32 := if a0 < 0 then some 0 else gf σ 13 11 (fun x1 => if x1 ≤ a0 then some 0 else some 1)
def T_X3_isBearer (σ : ST) (a0 : Int32) : Option Int32 := if a0 < 0 then some 0 else gf σ 13 12 (fun x1 => if x1 ≤ a0 then some 0 else some 1)
def T_X3_isPlace (σ : ST) (a0 : Int32) : Option Int32 := if a0 < 0 then some 0 else if 10 ≤ a0 then some 0 else some 1
def T_X3_areTwo (σ : ST) (a0 : Int32) (a1 : Int32) : Option Int32 := cV (T_X3_isBearer σ a0) (fun x1 => if x1 = 0 then some 0 else cV (T_X3_isBearer σ a1) (fun x3 => if x3 = 0 then some 0 else if a0 = a1 then some 0 else some 1))
def T_X3_feed_j25  (v1 : Int32) (v2 : Int32) (σ : ST) : Option (Int32 × ST) := if v2 = 0 then gf σ 13 19 (fun x1 => sd σ 13 15 96 x1 v1 (fun σ2 => gf σ2 13 19 (fun x3 => pf σ2 13 19 (x3 + 1) (fun σ4 => gf σ4 13 19 (fun x5 => some (x5, σ4)))))) else cI (T_X3_no v2 σ) (fun x6 σ7 => some (x6, σ7))
def T_X3_feed (a0 : Int32) (σ : ST) : Option (Int32 × ST) := cV (T_X3_bound σ a0 0 255) (fun x1 => if x1 = 0 then gf σ 13 19 (fun x3 => if x3 = 96 then T_X3_feed_j25 a0 ((-6)) σ else T_X3_feed_j25 a0 x1 σ) else T_X3_feed_j25 a0 x1 σ)
def T_X3_next (σ : ST) : Option Int32 := gf σ 13 20 (fun x1 => gf σ 13 19 (fun x2 => if x2 ≤ x1 then some ((-1)) else gf σ 13 20 (fun x3 => ld σ 13 15 96 x3 (fun x4 => some x4))))
def T_X3_readsDigits_L5  : Nat → Int32 → Int32 → Int32 → Int32 → ST → Option (Int32 × ST)
  | 0, _, _, _, _, _ => none
  | n + 1, v1, v2, v3, v4, σ => if v2 ≤ v4 then sd σ 13 18 144 v1 v3 (fun σ1 => some (1, σ1)) else cV (T_X3_next σ) (fun x2 => cV (T_X3_isIn σ x2 48 57) (fun x4 => if x4 = 0 then some (0, σ) else cV (T_X3_next σ) (fun x6 => vl (((10 * v3) + x6) - 48) (fun x8 => gf σ 13 20 (fun x9 => pf σ 13 20 (x9 + 1) (fun σ10 => vl (v4 + 1) (fun x11 => T_X3_readsDigits_L5 n v1 v2 x8 x11 σ10)))))))
def T_X3_readsDigits (a0 : Int32) (a1 : Int32) (σ : ST) : Option (Int32 × ST) := T_X3_readsDigits_L5 FU a0 a1 0 0 σ
def T_X3_readsAll_j44  (v2 : Int32) (σ : ST) : Option (Int32 × ST) := cI (T_X3_readsDigits v2 1 σ) (fun x1 σ2 => if x1 = 0 then some (0, σ2) else cI (T_X3_readsDigits (v2 + 1) 1 σ2) (fun x3 σ4 => if x3 = 0 then some (0, σ4) else cI (T_X3_readsDigits (v2 + 2) 1 σ4) (fun x5 σ6 => if x5 = 0 then some (0, σ6) else some (1, σ6))))
def T_X3_readsAll (a0 : Int32) (a1 : Int32) (σ : ST) : Option (Int32 × ST) := if a0 = 98 then T_X3_readsAll_j44 a1 σ else if a0 = 99 then cI (T_X3_readsDigits a1 1 σ) (fun x7 σ8 => rz x7 (some (x7, σ8))) else if a0 = 104 then cI (T_X3_readsDigits a1 2 σ) (fun x5 σ6 => rz x5 (some (x5, σ6))) else if a0 = 108 then T_X3_readsAll_j44 a1 σ else cI (T_X3_readsDigits a1 1 σ) (fun x1 σ2 => if x1 = 0 then some (0, σ2) else cI (T_X3_readsDigits (a1 + 1) 1 σ2) (fun x3 σ4 => if x3 = 0 then some (0, σ4) else some (1, σ4)))
def T_X3_statement_j43  (v1 : Int32) (σ : ST) : Option (Int32 × ST) := gf σ 13 21 (fun x1 => sd σ 13 16 48 x1 v1 (fun σ2 => gf σ2 13 21 (fun x3 => gf σ2 13 20 (fun x4 => sd σ2 13 17 48 x3 x4 (fun σ5 => gf σ5 13 20 (fun x6 => pf σ5 13 20 (x6 + 1) (fun σ7 => gf σ7 13 21 (fun x8 => cI (T_X3_readsAll v1 (3 * x8) σ7) (fun x9 σ10 => if x9 = 0 then some (0, σ10) else cV (T_X3_next σ10) (fun x11 => if x11 = 59 then gf σ10 13 20 (fun x13 => pf σ10 13 20 (x13 + 1) (fun σ14 => some (1, σ14))) else some (0, σ10)))))))))))
def T_X3_statement (σ : ST) : Option (Int32 × ST) := cV (T_X3_next σ) (fun x1 => if x1 = 98 then T_X3_statement_j43 x1 σ else if x1 = 108 then T_X3_statement_j43 x1 σ else if x1 = 103 then T_X3_statement_j43 x1 σ else if x1 = 102 then T_X3_statement_j43 x1 σ else if x1 = 99 then T_X3_statement_j43 x1 σ else if x1 = 104 then T_X3_statement_j43 x1 σ else some (0, σ))
def T_X3_whoHas_L2 (σ : ST) : Nat → Int32 → Int32 → Option Int32
  | 0, _, _ => none
  | n + 1, v1, v2 => gf σ 13 12 (fun x1 => if x1 ≤ v2 then some 9 else ld σ 13 9 5 v2 (fun x2 => if x2 = v1 then some v2 else vl (v2 + 1) (fun x3 => T_X3_whoHas_L2 σ n v1 x3)))
def T_X3_whoHas (σ : ST) (a0 : Int32) : Option Int32 := T_X3_whoHas_L2 σ FU a0 0
def T_X3_isFriendOut (σ : ST) (a0 : Int32) : Option Int32 := ld σ 13 4 6 a0 (fun x1 => if 9 ≤ x1 then some 0 else ld σ 13 4 6 a0 (fun x2 => cV (T_X3_whoHas σ x2) (fun x3 => if 9 ≤ x3 then some 0 else some 1)))
def T_X3_pullOf (σ : ST) (a0 : Int32) : Option Int32 := ld σ 13 1 6 a0 (fun x1 => if x1 = 1 then ld σ 13 2 6 a0 (fun x10 => ld σ 13 5 6 a0 (fun x11 => some (x10 + x11))) else if x1 = 2 then ld σ 13 2 6 a0 (fun x9 => some (x9 + 4)) else if x1 = 3 then ld σ 13 2 6 a0 (fun x8 => some (x8 / 2)) else if x1 = 4 then ld σ 13 2 6 a0 (fun x5 => cV (T_X3_isFriendOut σ a0) (fun x6 => if x6 = 0 then some (x5 + 0) else some (x5 + 2))) else if x1 = 5 then ld σ 13 2 6 a0 (fun x3 => ld σ 13 5 6 a0 (fun x4 => some (2 * (x3 + x4)))) else ld σ 13 2 6 a0 (fun x2 => some x2))
def T_X3_isLed (σ : ST) (a0 : Int32) : Option Int32 := ld σ 13 9 5 a0 (fun x1 => if 9 ≤ x1 then some 0 else ld σ 13 9 5 a0 (fun x2 => cV (T_X3_pullOf σ x2) (fun x3 => ld σ 13 6 5 a0 (fun x5 => if x3 ≤ x5 then some 0 else some 1))))
def T_X3_goalOf_j42 (σ : ST) (v1 : Int32) : Option Int32 := ld σ 13 1 6 v1 (fun x1 => if x1 = 4 then cV (T_X3_isFriendOut σ v1) (fun x3 => if x3 = 0 then ld σ 13 3 6 v1 (fun x5 => some x5) else ld σ 13 4 6 v1 (fun x6 => cV (T_X3_whoHas σ x6) (fun x7 => ld σ 13 8 5 x7 (fun x9 => some x9)))) else ld σ 13 3 6 v1 (fun x2 => some x2))
def T_X3_goalOf (σ : ST) (a0 : Int32) (a1 : Int32) : Option Int32 := ld σ 13 1 6 a0 (fun x1 => if x1 = 2 then gf σ 13 14 (fun x4 => some ((x4 + 5) - (x4 + 5) / 10 * 10)) else ld σ 13 1 6 a0 (fun x2 => if x2 = 3 then gf σ 13 13 (fun x3 => if (x3 - x3 / 2 * 2) = 1 then some a1 else T_X3_goalOf_j42 σ a0) else T_X3_goalOf_j42 σ a0))
def T_X3_towards (σ : ST) (a0 : Int32) (a1 : Int32) : Option Int32 := vl (((a1 - a0) + 10) - ((a1 - a0) + 10) / 10 * 10) (fun x1 => if x1 = 0 then some a0 else if 5 < x1 then some ((a0 + 9) - (a0 + 9) / 10 * 10) else some ((a0 + 1) - (a0 + 1) / 10 * 10))
def T_X3_goesLed_L36  : Nat → Int32 → Int32 → Int32 → ST → Option ST
  | 0, _, _, _, _ => none
  | n + 1, v1, v3, v4, σ => if v4 ≤ 0 then some σ else ld σ 13 8 5 v1 (fun x1 => if x1 = v3 then some σ else ld σ 13 8 5 v1 (fun x2 => cV (T_X3_towards σ x2 v3) (fun x3 => sd σ 13 8 5 v1 x3 (fun σ5 => ld σ5 13 10 5 v1 (fun x6 => ld σ5 13 10 5 v1 (fun x7 => if x7 ≤ 0 then sd σ5 13 10 5 v1 (x6 - 0) (fun σ8 => vl (v4 + (-1)) (fun x9 => T_X3_goesLed_L36 n v1 v3 x9 σ8)) else sd σ5 13 10 5 v1 (x6 - 1) (fun σ10 => vl (v4 + (-1)) (fun x11 => T_X3_goesLed_L36 n v1 v3 x11 σ10))))))))
def T_X3_goesLed (a0 : Int32) (σ : ST) : Option ST := ld σ 13 9 5 a0 (fun x1 => ld σ 13 7 5 a0 (fun x2 => cV (T_X3_goalOf σ x1 x2) (fun x3 => ld σ 13 1 6 x1 (fun x5 => if x5 = 5 then T_X3_goesLed_L36 FU a0 x3 2 σ else T_X3_goesLed_L36 FU a0 x3 1 σ))))
def T_X3_goesOne_j55  (v1 : Int32) (σ : ST) : Option ST := ld σ 13 8 5 v1 (fun x1 => ld σ 13 7 5 v1 (fun x2 => cV (T_X3_towards σ x1 x2) (fun x3 => sd σ 13 8 5 v1 x3 (fun σ5 => ld σ5 13 10 5 v1 (fun x6 => ld σ5 13 10 5 v1 (fun x7 => if 9 ≤ x7 then sd σ5 13 10 5 v1 (x6 + 0) (fun σ8 => some σ8) else sd σ5 13 10 5 v1 (x6 + 1) (fun σ9 => some σ9)))))))
def T_X3_goesOne (a0 : Int32) (a1 : Int32) (σ : ST) : Option ST := ld σ 13 10 5 a0 (fun x1 => if x1 = 0 then sd σ 13 10 5 a0 3 (fun σ8 => ld σ8 13 28 5 a0 (fun x9 => sd σ8 13 28 5 a0 (x9 + 1) (fun σ10 => some σ10))) else cV (T_X3_isLed σ a0) (fun x2 => if x2 = 0 then T_X3_goesOne_j55 a0 σ else if a1 = 0 then ld σ 13 27 5 a0 (fun x4 => sd σ 13 27 5 a0 (x4 + 1) (fun σ5 => cV (T_X3_goesLed a0 σ5) (fun σ7 => some σ7))) else T_X3_goesOne_j55 a0 σ))
def T_X3_goesHour_j39 (K12 : Int32 → Int32 → ST → Option ST) (v1 : Int32) (v2 : Int32) (s0 : Int32) (s1 : Int32) (σ : ST) : Option ST := cV (T_X3_goesOne s1 s0 σ) (fun σ2 => vl (v2 + 1) (fun x3 => K12 v1 x3 σ2))
def T_X3_goesHour_j38 (K12 : Int32 → Int32 → ST → Option ST) (v1 : Int32) (v2 : Int32) (s0 : Int32) (σ : ST) : Option ST := T_X3_goesHour_j39 K12 v1 v2 0 s0 σ
def T_X3_goesHour_j105 (K50 : Int32 → ST → Option ST) (v2 : Int32) (s0 : Int32) (s1 : Int32) (s2 : Int32) (σ : ST) : Option ST := sd σ 13 5 6 s2 (s1 + s0) (fun σ1 => gf σ1 13 29 (fun x2 => ld σ1 13 9 5 v2 (fun x3 => ld σ1 13 1 6 x3 (fun x4 => if x4 = 2 then ld σ1 13 8 5 v2 (fun x7 => gf σ1 13 14 (fun x8 => if x7 = x8 then pf σ1 13 29 (x2 + 1) (fun σ11 => vl (v2 + 1) (fun x12 => K50 x12 σ11)) else pf σ1 13 29 (x2 + 0) (fun σ9 => vl (v2 + 1) (fun x10 => K50 x10 σ9)))) else pf σ1 13 29 (x2 + 0) (fun σ5 => vl (v2 + 1) (fun x6 => K50 x6 σ5))))))
def T_X3_goesHour_L50  : Nat → Int32 → ST → Option ST
  | 0, _, _ => none
  | n + 1, v2, σ => gf σ 13 12 (fun x1 => if x1 ≤ v2 then some σ else ld σ 13 9 5 v2 (fun x2 => if x2 = 9 then vl (v2 + 1) (fun x7 => T_X3_goesHour_L50 n x7 σ) else ld σ 13 9 5 v2 (fun x3 => ld σ 13 5 6 x3 (fun x4 => ld σ 13 9 5 v2 (fun x5 => ld σ 13 5 6 x5 (fun x6 => if 99 ≤ x6 then T_X3_goesHour_j105 (fun v2 s => T_X3_goesHour_L50 n v2 s) v2 0 x4 x3 σ else T_X3_goesHour_j105 (fun v2 s => T_X3_goesHour_L50 n v2 s) v2 1 x4 x3 σ))))))
def T_X3_goesHour_L12  : Nat → Int32 → Int32 → ST → Option ST
  | 0, _, _, _ => none
  | n + 1, v1, v2, σ => gf σ 13 12 (fun x1 => if x1 ≤ v2 then T_X3_goesHour_L50 FU 0 σ else if v1 = 0 then T_X3_goesHour_j38 (fun v1 v2 s => T_X3_goesHour_L12 n v1 v2 s) v1 v2 v2 σ else gf σ 13 30 (fun x2 => if v2 = x2 then T_X3_goesHour_j39 (fun v1 v2 s => T_X3_goesHour_L12 n v1 v2 s) v1 v2 1 v2 σ else T_X3_goesHour_j38 (fun v1 v2 s => T_X3_goesHour_L12 n v1 v2 s) v1 v2 v2 σ))
def T_X3_goesHour (a0 : Int32) (σ : ST) : Option ST := gf σ 13 13 (fun x1 => pf σ 13 13 (x1 + 1) (fun σ2 => T_X3_goesHour_L12 FU a0 0 σ2))
def T_X3_comesHours_L26  : Nat → Int32 → Int32 → ST → Option (Int32 × ST)
  | 0, _, _, _ => none
  | n + 1, v1, v2, σ => if v1 ≤ v2 then some (1, σ) else cV (T_X3_goesHour 0 σ) (fun σ2 => vl (v2 + 1) (fun x3 => T_X3_comesHours_L26 n v1 x3 σ2))
def T_X3_comesHours (a0 : Int32) (σ : ST) : Option (Int32 × ST) := cV (T_X3_isIn σ a0 1 60) (fun x1 => if x1 = 0 then some (0, σ) else gf σ 13 13 (fun x3 => if (x3 + a0) ≤ 999 then T_X3_comesHours_L26 FU a0 0 σ else some (0, σ)))
def T_X3_addsBag (a0 : Int32) (a1 : Int32) (a2 : Int32) (σ : ST) : Option ST := gf σ 13 11 (fun x1 => sd σ 13 1 6 x1 a0 (fun σ2 => gf σ2 13 11 (fun x3 => sd σ2 13 2 6 x3 a1 (fun σ4 => gf σ4 13 11 (fun x5 => sd σ4 13 3 6 x5 a2 (fun σ6 => gf σ6 13 11 (fun x7 => sd σ6 13 4 6 x7 9 (fun σ8 => gf σ8 13 11 (fun x9 => sd σ8 13 5 6 x9 0 (fun σ10 => gf σ10 13 11 (fun x11 => pf σ10 13 11 (x11 + 1) (fun σ12 => some σ12))))))))))))
def T_X3_addsBearer (a0 : Int32) (a1 : Int32) (a2 : Int32) (σ : ST) : Option ST := gf σ 13 12 (fun x1 => sd σ 13 6 5 x1 a0 (fun σ2 => gf σ2 13 12 (fun x3 => sd σ2 13 7 5 x3 a1 (fun σ4 => gf σ4 13 12 (fun x5 => sd σ4 13 8 5 x5 a2 (fun σ6 => gf σ6 13 12 (fun x7 => sd σ6 13 9 5 x7 9 (fun σ8 => gf σ8 13 12 (fun x9 => sd σ8 13 10 5 x9 9 (fun σ10 => gf σ10 13 12 (fun x11 => pf σ10 13 12 (x11 + 1) (fun σ12 => some σ12))))))))))))
def T_X3_givesHer_j20  (v1 : Int32) (v2 : Int32) (σ : ST) : Option ST := sd σ 13 9 5 v2 v1 (fun σ1 => sd σ1 13 5 6 v1 0 (fun σ2 => some σ2))
def T_X3_givesHer (a0 : Int32) (a1 : Int32) (σ : ST) : Option ST := cV (T_X3_whoHas σ a0) (fun x1 => if 9 ≤ x1 then T_X3_givesHer_j20 a0 a1 σ else sd σ 13 9 5 x1 9 (fun σ3 => T_X3_givesHer_j20 a0 a1 σ3))
def T_X3_unfriends_j24  (v1 : Int32) (σ : ST) : Option ST := sd σ 13 4 6 v1 9 (fun σ1 => some σ1)
def T_X3_unfriends (a0 : Int32) (σ : ST) : Option ST := ld σ 13 4 6 a0 (fun x1 => if 9 ≤ x1 then T_X3_unfriends_j24 a0 σ else ld σ 13 4 6 a0 (fun x2 => sd σ 13 4 6 x2 9 (fun σ3 => T_X3_unfriends_j24 a0 σ3)))
def T_X3_befriends (a0 : Int32) (a1 : Int32) (σ : ST) : Option ST := cV (T_X3_unfriends a0 σ) (fun σ2 => cV (T_X3_unfriends a1 σ2) (fun σ4 => if a0 = a1 then some σ4 else sd σ4 13 4 6 a0 a1 (fun σ5 => sd σ5 13 4 6 a1 a0 (fun σ6 => some σ6))))
def T_X3_comes_j205  (v2 : Int32) (σ : ST) : Option (Int32 × ST) := cI (T_X3_comesHours v2 σ) (fun x1 σ2 => rz x1 (some (x1, σ2)))
def T_X3_comes (a0 : Int32) (σ : ST) : Option (Int32 × ST) := ld σ 13 18 144 (3 * a0) (fun x1 => ld σ 13 18 144 ((3 * a0) + 1) (fun x2 => ld σ 13 16 48 a0 (fun x3 => if x3 = 98 then if 5 < x1 then some (0, σ) else gf σ 13 11 (fun x21 => if x21 = 6 then some (0, σ) else ld σ 13 18 144 ((3 * a0) + 2) (fun x22 => cV (T_X3_addsBag x1 x2 x22 σ) (fun σ24 => some (1, σ24)))) else if x3 = 99 then pf σ 13 14 x1 (fun σ20 => some (1, σ20)) else if x3 = 100 then T_X3_comes_j205 x1 σ else if x3 = 101 then T_X3_comes_j205 x1 σ else if x3 = 102 then cV (T_X3_isBag σ x1) (fun x14 => if x14 = 0 then some (0, σ) else cV (T_X3_isBag σ x2) (fun x16 => if x16 = 0 then some (0, σ) else cV (T_X3_befriends x1 x2 σ) (fun σ19 => some (1, σ19)))) else if x3 = 103 then cV (T_X3_isBag σ x1) (fun x8 => if x8 = 0 then some (0, σ) else cV (T_X3_isBearer σ x2) (fun x10 => if x10 = 0 then some (0, σ) else cV (T_X3_givesHer x1 x2 σ) (fun σ13 => some (1, σ13)))) else if x3 = 104 then T_X3_comes_j205 x1 σ else if x3 = 105 then T_X3_comes_j205 x1 σ else if x3 = 106 then T_X3_comes_j205 x1 σ else if x3 = 107 then T_X3_comes_j205 x1 σ else if x3 = 108 then gf σ 13 12 (fun x4 => if x4 = 5 then some (0, σ) else ld σ 13 18 144 ((3 * a0) + 2) (fun x5 => cV (T_X3_addsBearer x1 x2 x5 σ) (fun σ7 => some (1, σ7)))) else T_X3_comes_j205 x1 σ)))
def T_X3_passes_j42 (f0 n0 : Nat) (K2 : Int32 → ST → Option ST) (v2 : Int32) (σ : ST) : Option ST := gf σ 13 25 (fun x1 => pf σ 13 25 (x1 + 1) (fun σ2 => vl (v2 + 1) (fun x3 => K2 x3 σ2)))
def T_X3_passes_L2 (f0 n0 : Nat) : Nat → Int32 → ST → Option ST
  | 0, _, _ => none
  | n + 1, v2, σ => if (Int32.ofNat n0) ≤ v2 then some σ else gf σ 13 24 (fun x1 => if x1 = 0 then gf σ 13 25 (fun x2 => ld σ 13 22 660 x2 (fun x3 => sd σ 13 f0 n0 v2 x3 (fun σ4 => T_X3_passes_j42 f0 n0 (fun v2 s => T_X3_passes_L2 f0 n0 n v2 s) v2 σ4))) else gf σ 13 25 (fun x5 => ld σ 13 f0 n0 v2 (fun x6 => sd σ 13 22 660 x5 x6 (fun σ7 => T_X3_passes_j42 f0 n0 (fun v2 s => T_X3_passes_L2 f0 n0 n v2 s) v2 σ7))))
def T_X3_passes (f0 n0 : Nat) (σ : ST) : Option ST := T_X3_passes_L2 f0 n0 FU 0 σ
def T_X3_passOne_j38  (v2 : Int32) (σ : ST) : Option (Int32 × ST) := gf σ 13 25 (fun x1 => pf σ 13 25 (x1 + 1) (fun σ2 => some (v2, σ2)))
def T_X3_passOne_j20  (v1 : Int32) (s0 : Int32) (σ : ST) : Option (Int32 × ST) := gf σ 13 24 (fun x1 => if x1 = 0 then T_X3_passOne_j38 s0 σ else gf σ 13 25 (fun x2 => sd σ 13 22 660 x2 v1 (fun σ3 => T_X3_passOne_j38 s0 σ3)))
def T_X3_passOne (a0 : Int32) (σ : ST) : Option (Int32 × ST) := gf σ 13 24 (fun x1 => if x1 = 0 then gf σ 13 25 (fun x2 => ld σ 13 22 660 x2 (fun x3 => T_X3_passOne_j20 a0 x3 σ)) else T_X3_passOne_j20 a0 a0 σ)
def T_X3_passesAll (a0 : Int32) (a1 : Int32) (σ : ST) : Option ST := pf σ 13 25 (60 * a0) (fun σ1 => rz a1 (pf σ1 13 24 a1 (fun σ2 => cV (T_X3_passes 1 6 σ2) (fun σ4 => cV (T_X3_passes 2 6 σ4) (fun σ6 => cV (T_X3_passes 3 6 σ6) (fun σ8 => cV (T_X3_passes 4 6 σ8) (fun σ10 => cV (T_X3_passes 5 6 σ10) (fun σ12 => cV (T_X3_passes 6 5 σ12) (fun σ14 => cV (T_X3_passes 7 5 σ14) (fun σ16 => cV (T_X3_passes 8 5 σ16) (fun σ18 => cV (T_X3_passes 9 5 σ18) (fun σ20 => cV (T_X3_passes 10 5 σ20) (fun σ22 => gf σ22 13 11 (fun x23 => cI (T_X3_passOne x23 σ22) (fun x24 σ25 => pf σ25 13 11 x24 (fun σ26 => gf σ26 13 12 (fun x27 => cI (T_X3_passOne x27 σ26) (fun x28 σ29 => pf σ29 13 12 x28 (fun σ30 => gf σ30 13 13 (fun x31 => cI (T_X3_passOne x31 σ30) (fun x32 σ33 => pf σ33 13 13 x32 (fun σ34 => gf σ34 13 14 (fun x35 => cI (T_X3_passOne x35 σ34) (fun x36 σ37 => pf σ37 13 14 x36 (fun σ38 => some σ38)))))))))))))))))))))))))
def T_X3_bequest_j34 (K12 : Int32 → ST → Option (Int32 × ST)) (σ : ST) : Option (Int32 × ST) := cI (T_X3_statement σ) (fun x1 σ2 => gf σ2 13 21 (fun x3 => if x1 = 0 then pf σ2 13 21 (x3 + 0) (fun σ4 => K12 x1 σ4) else pf σ2 13 21 (x3 + 1) (fun σ5 => K12 x1 σ5)))
def T_X3_bequest_L86  : Nat → Int32 → ST → Option (Int32 × ST)
  | 0, _, _ => none
  | n + 1, v2, σ => gf σ 13 21 (fun x1 => if x1 ≤ v2 then pf σ 13 26 0 (fun σ2 => gf σ2 13 21 (fun x3 => some (x3, σ2))) else cI (T_X3_comes v2 σ) (fun x4 σ5 => if x4 = 0 then cV (T_X3_passesAll 1 0 σ5) (fun σ7 => ld σ7 13 17 48 v2 (fun x8 => some (((-2000)) - x8, σ7))) else vl (v2 + 1) (fun x9 => T_X3_bequest_L86 n x9 σ5)))
def T_X3_bequest_j60  (v1 : Int32) (σ : ST) : Option (Int32 × ST) := pf σ 13 19 0 (fun σ1 => if v1 = 0 then gf σ1 13 20 (fun x4 => some (((-1000)) - x4, σ1)) else cV (T_X3_passesAll 1 1 σ1) (fun σ3 => T_X3_bequest_L86 FU 0 σ3))
def T_X3_bequest_L12  : Nat → Int32 → ST → Option (Int32 × ST)
  | 0, _, _ => none
  | n + 1, v1, σ => if v1 = 0 then T_X3_bequest_j60 v1 σ else gf σ 13 20 (fun x1 => gf σ 13 19 (fun x2 => if x1 < x2 then T_X3_bequest_j34 (fun v1 s => T_X3_bequest_L12 n v1 s) σ else gf σ 13 21 (fun x3 => if x3 = 0 then T_X3_bequest_j34 (fun v1 s => T_X3_bequest_L12 n v1 s) σ else T_X3_bequest_j60 v1 σ)))
def T_X3_bequest (σ : ST) : Option (Int32 × ST) := pf σ 13 20 0 (fun σ1 => pf σ1 13 21 0 (fun σ2 => T_X3_bequest_L12 FU 1 σ2))
def T_X3_thinks (σ : ST) : Option ST := cV (T_X3_passesAll 2 1 σ) (fun σ2 => some σ2)
def T_X3_forgets (σ : ST) : Option ST := cV (T_X3_passesAll 2 0 σ) (fun σ2 => some σ2)
def T_X3_keepsBack_j51  (σ : ST) : Option ST := gf σ 13 26 (fun x1 => cV (T_X3_passesAll (3 + x1) 1 σ) (fun σ3 => gf σ3 13 26 (fun x4 => pf σ3 13 26 (x4 + 1) (fun σ5 => some σ5))))
def T_X3_keepsBack_L13  : Nat → Int32 → ST → Option ST
  | 0, _, _ => none
  | n + 1, v1, σ => if 600 ≤ v1 then gf σ 13 26 (fun x1 => pf σ 13 26 (x1 - 1) (fun σ2 => T_X3_keepsBack_j51 σ2)) else ld σ 13 22 660 (v1 + 60) (fun x3 => sd σ 13 22 660 v1 x3 (fun σ4 => vl (v1 + 1) (fun x5 => T_X3_keepsBack_L13 n x5 σ4)))
def T_X3_keepsBack (σ : ST) : Option ST := gf σ 13 26 (fun x1 => if x1 = 8 then T_X3_keepsBack_L13 FU 180 σ else T_X3_keepsBack_j51 σ)
def T_X3_back (σ : ST) : Option (Int32 × ST) := gf σ 13 26 (fun x1 => if x1 = 0 then cI (T_X3_no ((-3)) σ) (fun x8 σ9 => some (x8, σ9)) else gf σ 13 26 (fun x2 => pf σ 13 26 (x2 - 1) (fun σ3 => gf σ3 13 26 (fun x4 => cV (T_X3_passesAll (3 + x4) 0 σ3) (fun σ6 => gf σ6 13 26 (fun x7 => some (x7, σ6)))))))
def T_X3_image (σ : ST) : Option (Int32 × ST) := rz 1 (pf σ 13 23 1 (fun σ1 => cV (T_X3_passesAll 0 1 σ1) (fun σ3 => gf σ3 13 13 (fun x4 => some (x4, σ3)))))
def T_X3_restore (σ : ST) : Option (Int32 × ST) := gf σ 13 23 (fun x1 => if x1 = 0 then cI (T_X3_no ((-3)) σ) (fun x6 σ7 => some (x6, σ7)) else cV (T_X3_passesAll 0 0 σ) (fun σ3 => pf σ3 13 26 0 (fun σ4 => gf σ4 13 13 (fun x5 => some (x5, σ4)))))
def T_X3_counts_L7  : Nat → Int32 → ST → Option ST
  | 0, _, _ => none
  | n + 1, v1, σ => if 5 ≤ v1 then some σ else sd σ 13 27 5 v1 0 (fun σ1 => sd σ1 13 28 5 v1 0 (fun σ2 => vl (v1 + 1) (fun x3 => T_X3_counts_L7 n x3 σ2)))
def T_X3_counts (σ : ST) : Option ST := pf σ 13 29 0 (fun σ1 => T_X3_counts_L7 FU 0 σ1)
def T_X3_goes_L2  : Nat → Int32 → Int32 → ST → Option ST
  | 0, _, _, _ => none
  | n + 1, v1, v2, σ => if v1 ≤ v2 then some σ else cV (T_X3_goesHour 0 σ) (fun σ2 => vl (v2 + 1) (fun x3 => T_X3_goes_L2 n v1 x3 σ2))
def T_X3_goes (a0 : Int32) (σ : ST) : Option ST := T_X3_goes_L2 FU a0 0 σ
def T_X3_bagOf (a0 : Int32) (a1 : Int32) (σ : ST) : Option (Int32 × ST) := cV (T_X3_isBag σ a0) (fun x1 => if x1 = 0 then cI (T_X3_no ((-1)) σ) (fun x17 σ18 => some (x17, σ18)) else if a1 = 0 then ld σ 13 1 6 a0 (fun x16 => some (x16, σ)) else if a1 = 1 then ld σ 13 2 6 a0 (fun x15 => some (x15, σ)) else if a1 = 2 then ld σ 13 3 6 a0 (fun x14 => some (x14, σ)) else if a1 = 3 then ld σ 13 4 6 a0 (fun x12 => if 9 ≤ x12 then some ((-9), σ) else ld σ 13 4 6 a0 (fun x13 => some (x13, σ))) else if a1 = 4 then ld σ 13 5 6 a0 (fun x11 => some (x11, σ)) else if a1 = 5 then cV (T_X3_whoHas σ a0) (fun x7 => if 9 ≤ x7 then some ((-9), σ) else cV (T_X3_whoHas σ a0) (fun x9 => some (x9, σ))) else if a1 = 6 then cV (T_X3_pullOf σ a0) (fun x5 => some (x5, σ)) else cI (T_X3_no ((-2)) σ) (fun x3 σ4 => some (x3, σ4)))
def T_X3_bagNow (σ : ST) (a0 : Int32) : Option Int32 := ld σ 13 9 5 a0 (fun x1 => if 9 ≤ x1 then some ((-9)) else ld σ 13 9 5 a0 (fun x2 => some x2))
def T_X3_bearerOf (a0 : Int32) (a1 : Int32) (σ : ST) : Option (Int32 × ST) := cV (T_X3_isBearer σ a0) (fun x1 => if x1 = 0 then cI (T_X3_no ((-1)) σ) (fun x13 σ14 => some (x13, σ14)) else if a1 = 0 then ld σ 13 6 5 a0 (fun x12 => some (x12, σ)) else if a1 = 1 then ld σ 13 7 5 a0 (fun x11 => some (x11, σ)) else if a1 = 2 then ld σ 13 8 5 a0 (fun x10 => some (x10, σ)) else if a1 = 3 then cV (T_X3_bagNow σ a0) (fun x8 => some (x8, σ)) else if a1 = 4 then ld σ 13 10 5 a0 (fun x7 => some (x7, σ)) else if a1 = 5 then cV (T_X3_isLed σ a0) (fun x5 => if x5 = 0 then some (0, σ) else some (1, σ)) else cI (T_X3_no ((-2)) σ) (fun x3 σ4 => some (x3, σ4)))
def T_X3_bag_j54  (v1 : Int32) (v2 : Int32) (v3 : Int32) (s0 : Int32) (σ : ST) : Option (Int32 × ST) := if s0 = 0 then pf σ 13 26 0 (fun σ1 => cV (T_X3_addsBag v1 v2 v3 σ1) (fun σ3 => gf σ3 13 11 (fun x4 => some (x4 - 1, σ3)))) else cI (T_X3_no s0 σ) (fun x5 σ6 => some (x5, σ6))
def T_X3_bag_j22  (v1 : Int32) (v2 : Int32) (v3 : Int32) (σ : ST) : Option (Int32 × ST) := T_X3_bag_j54 v1 v2 v3 ((-4)) σ
def T_X3_bag_j48  (v1 : Int32) (v2 : Int32) (v3 : Int32) (σ : ST) : Option (Int32 × ST) := T_X3_bag_j54 v1 v2 v3 ((-6)) σ
def T_X3_bag (a0 : Int32) (a1 : Int32) (a2 : Int32) (σ : ST) : Option (Int32 × ST) := cV (T_X3_isIn σ a0 0 5) (fun x1 => if x1 = 0 then T_X3_bag_j54 a0 a1 a2 ((-2)) σ else if a1 < 0 then T_X3_bag_j22 a0 a1 a2 σ else if 0 ≤ a2 then if 9 < a1 then T_X3_bag_j48 a0 a1 a2 σ else if 9 < a2 then T_X3_bag_j48 a0 a1 a2 σ else gf σ 13 11 (fun x3 => if x3 = 6 then T_X3_bag_j48 a0 a1 a2 σ else T_X3_bag_j54 a0 a1 a2 0 σ) else T_X3_bag_j22 a0 a1 a2 σ)
def T_X3_bearer_j49  (v1 : Int32) (v2 : Int32) (v3 : Int32) (s0 : Int32) (σ : ST) : Option (Int32 × ST) := if s0 = 0 then pf σ 13 26 0 (fun σ1 => cV (T_X3_addsBearer v1 v2 v3 σ1) (fun σ3 => gf σ3 13 12 (fun x4 => some (x4 - 1, σ3)))) else cI (T_X3_no s0 σ) (fun x5 σ6 => some (x5, σ6))
def T_X3_bearer_j12  (v1 : Int32) (v2 : Int32) (v3 : Int32) (σ : ST) : Option (Int32 × ST) := T_X3_bearer_j49 v1 v2 v3 ((-4)) σ
def T_X3_bearer_j43  (v1 : Int32) (v2 : Int32) (v3 : Int32) (σ : ST) : Option (Int32 × ST) := T_X3_bearer_j49 v1 v2 v3 ((-6)) σ
def T_X3_bearer (a0 : Int32) (a1 : Int32) (a2 : Int32) (σ : ST) : Option (Int32 × ST) := if a0 < 0 then T_X3_bearer_j12 a0 a1 a2 σ else if a1 < 0 then T_X3_bearer_j12 a0 a1 a2 σ else if 0 ≤ a2 then if 9 < a0 then T_X3_bearer_j43 a0 a1 a2 σ else if 9 < a1 then T_X3_bearer_j43 a0 a1 a2 σ else if 9 < a2 then T_X3_bearer_j43 a0 a1 a2 σ else gf σ 13 12 (fun x1 => if x1 = 5 then T_X3_bearer_j43 a0 a1 a2 σ else T_X3_bearer_j49 a0 a1 a2 0 σ) else T_X3_bearer_j12 a0 a1 a2 σ
def T_X3_gives_j16  (σ : ST) : Option (Int32 × ST) := cI (T_X3_no ((-1)) σ) (fun x1 σ2 => some (x1, σ2))
def T_X3_gives (a0 : Int32) (a1 : Int32) (σ : ST) : Option (Int32 × ST) := cV (T_X3_isBag σ a0) (fun x1 => if x1 = 0 then T_X3_gives_j16 σ else cV (T_X3_isBearer σ a1) (fun x3 => if x3 = 0 then T_X3_gives_j16 σ else cV (T_X3_keepsBack σ) (fun σ6 => cV (T_X3_bagNow σ6 a1) (fun x7 => cV (T_X3_givesHer a0 a1 σ6) (fun σ10 => some (x7, σ10))))))
def T_X3_friends_j16  (σ : ST) : Option (Int32 × ST) := cI (T_X3_no ((-1)) σ) (fun x1 σ2 => some (x1, σ2))
def T_X3_friends (a0 : Int32) (a1 : Int32) (σ : ST) : Option (Int32 × ST) := cV (T_X3_isBag σ a0) (fun x1 => if x1 = 0 then T_X3_friends_j16 σ else cV (T_X3_isBag σ a1) (fun x3 => if x3 = 0 then T_X3_friends_j16 σ else pf σ 13 26 0 (fun σ5 => cV (T_X3_befriends a0 a1 σ5) (fun σ7 => if a0 = a1 then some (0, σ7) else some (1, σ7)))))
def T_X3_wants_j15  (σ : ST) : Option (Int32 × ST) := cI (T_X3_no ((-1)) σ) (fun x1 σ2 => some (x1, σ2))
def T_X3_wants (a0 : Int32) (a1 : Int32) (σ : ST) : Option (Int32 × ST) := cV (T_X3_isBearer σ a0) (fun x1 => if x1 = 0 then T_X3_wants_j15 σ else cV (T_X3_isPlace σ a1) (fun x3 => if x3 = 0 then T_X3_wants_j15 σ else cV (T_X3_keepsBack σ) (fun σ6 => ld σ6 13 7 5 a0 (fun x7 => sd σ6 13 7 5 a0 a1 (fun σ8 => some (x7, σ8))))))
def T_X3_put_j15  (σ : ST) : Option (Int32 × ST) := cI (T_X3_no ((-1)) σ) (fun x1 σ2 => some (x1, σ2))
def T_X3_put (a0 : Int32) (a1 : Int32) (σ : ST) : Option (Int32 × ST) := cV (T_X3_isBearer σ a0) (fun x1 => if x1 = 0 then T_X3_put_j15 σ else cV (T_X3_isPlace σ a1) (fun x3 => if x3 = 0 then T_X3_put_j15 σ else cV (T_X3_keepsBack σ) (fun σ6 => ld σ6 13 8 5 a0 (fun x7 => sd σ6 13 8 5 a0 a1 (fun σ8 => some (x7, σ8))))))
def T_X3_colonel (a0 : Int32) (σ : ST) : Option (Int32 × ST) := cV (T_X3_isPlace σ a0) (fun x1 => if x1 = 0 then cI (T_X3_no ((-1)) σ) (fun x7 σ8 => some (x7, σ8)) else cV (T_X3_keepsBack σ) (fun σ4 => gf σ4 13 14 (fun x5 => pf σ4 13 14 a0 (fun σ6 => some (x5, σ6)))))
def T_X3_hours_j27  (v1 : Int32) (v2 : Int32) (σ : ST) : Option (Int32 × ST) := if v2 = 0 then pf σ 13 26 0 (fun σ1 => cV (T_X3_counts σ1) (fun σ3 => cV (T_X3_goes v1 σ3) (fun σ5 => gf σ5 13 29 (fun x6 => some (x6, σ5))))) else cI (T_X3_no v2 σ) (fun x7 σ8 => some (x7, σ8))
def T_X3_hours (a0 : Int32) (σ : ST) : Option (Int32 × ST) := cV (T_X3_bound σ a0 1 60) (fun x1 => if x1 = 0 then gf σ 13 13 (fun x3 => if (x3 + a0) ≤ 999 then T_X3_hours_j27 a0 x1 σ else T_X3_hours_j27 a0 ((-6)) σ) else T_X3_hours_j27 a0 x1 σ)
def T_X3_notHours (σ : ST) (a0 : Int32) : Option Int32 := cV (T_X3_bound σ a0 0 60) (fun x1 => some x1)
def T_X3_behind_j132  (s0 : Int32) (σ : ST) : Option (Int32 × ST) := cV (T_X3_forgets σ) (fun σ2 => some (s0, σ2))
def T_X3_behind_j87  (v1 : Int32) (v3 : Int32) (s0 : Int32) (σ : ST) : Option (Int32 × ST) := if v3 = 0 then ld σ 13 8 5 v1 (fun x3 => T_X3_behind_j132 x3 σ) else if v3 = 1 then ld σ 13 10 5 v1 (fun x2 => T_X3_behind_j132 x2 σ) else if v3 = 2 then ld σ 13 27 5 v1 (fun x1 => T_X3_behind_j132 x1 σ) else T_X3_behind_j132 s0 σ
def T_X3_behind_j36  (v1 : Int32) (v2 : Int32) (v3 : Int32) (v4 : Int32) (σ : ST) : Option (Int32 × ST) := if v4 = 0 then cV (T_X3_thinks σ) (fun σ2 => cV (T_X3_counts σ2) (fun σ4 => cV (T_X3_goes v2 σ4) (fun σ6 => ld σ6 13 9 5 v1 (fun x7 => if 9 ≤ x7 then T_X3_behind_j87 v1 v3 ((-9)) σ6 else ld σ6 13 9 5 v1 (fun x8 => cV (T_X3_pullOf σ6 x8) (fun x9 => T_X3_behind_j87 v1 v3 x9 σ6)))))) else cI (T_X3_no v4 σ) (fun x11 σ12 => some (x11, σ12))
def T_X3_behind_j16  (v1 : Int32) (v2 : Int32) (v3 : Int32) (s0 : Int32) (σ : ST) : Option (Int32 × ST) := if s0 = 0 then cV (T_X3_isIn σ v3 0 3) (fun x1 => if x1 = 0 then T_X3_behind_j36 v1 v2 v3 ((-2)) σ else T_X3_behind_j36 v1 v2 v3 s0 σ) else T_X3_behind_j36 v1 v2 v3 s0 σ
def T_X3_behind (a0 : Int32) (a1 : Int32) (a2 : Int32) (σ : ST) : Option (Int32 × ST) := cV (T_X3_isBearer σ a0) (fun x1 => if x1 = 0 then T_X3_behind_j16 a0 a1 a2 ((-1)) σ else cV (T_X3_notHours σ a1) (fun x3 => T_X3_behind_j16 a0 a1 a2 x3 σ))
def T_X3_meetsIn_j43 (K10 : Int32 → Int32 → Int32 → Int32 → ST → Option (Int32 × ST)) (v1 : Int32) (v2 : Int32) (v4 : Int32) (s0 : Int32) (σ : ST) : Option (Int32 × ST) := cV (T_X3_goesHour 0 σ) (fun σ2 => vl (v4 + 1) (fun x3 => K10 v1 v2 s0 x3 σ2))
def T_X3_meetsIn_j55  (v3 : Int32) (σ : ST) : Option (Int32 × ST) := cV (T_X3_forgets σ) (fun σ2 => some (v3, σ2))
def T_X3_meetsIn_L10  : Nat → Int32 → Int32 → Int32 → Int32 → ST → Option (Int32 × ST)
  | 0, _, _, _, _, _ => none
  | n + 1, v1, v2, v3, v4, σ => if 60 < v4 then T_X3_meetsIn_j55 v3 σ else if 0 ≤ v3 then T_X3_meetsIn_j55 v3 σ else ld σ 13 8 5 v1 (fun x1 => ld σ 13 8 5 v2 (fun x2 => if x1 = x2 then T_X3_meetsIn_j43 (fun v1 v2 v3 v4 s => T_X3_meetsIn_L10 n v1 v2 v3 v4 s) v1 v2 v4 v4 σ else T_X3_meetsIn_j43 (fun v1 v2 v3 v4 s => T_X3_meetsIn_L10 n v1 v2 v3 v4 s) v1 v2 v4 ((-9)) σ))
def T_X3_meetsIn (a0 : Int32) (a1 : Int32) (σ : ST) : Option (Int32 × ST) := cV (T_X3_thinks σ) (fun σ2 => T_X3_meetsIn_L10 FU a0 a1 ((-9)) 0 σ2)
def T_X3_meet (a0 : Int32) (a1 : Int32) (σ : ST) : Option (Int32 × ST) := cV (T_X3_areTwo σ a0 a1) (fun x1 => if x1 = 0 then cI (T_X3_no ((-1)) σ) (fun x3 σ4 => some (x3, σ4)) else cI (T_X3_meetsIn a0 a1 σ) (fun x5 σ6 => some (x5, σ6)))
def T_X3_manyAt_L4 (σ : ST) : Nat → Int32 → Int32 → Int32 → Option Int32
  | 0, _, _, _ => none
  | n + 1, v1, v2, v3 => gf σ 13 12 (fun x1 => if x1 ≤ v3 then some v2 else ld σ 13 8 5 v3 (fun x2 => if x2 = v1 then vl (v2 + 1) (fun x5 => vl (v3 + 1) (fun x6 => T_X3_manyAt_L4 σ n v1 x5 x6)) else vl (v2 + 0) (fun x3 => vl (v3 + 1) (fun x4 => T_X3_manyAt_L4 σ n v1 x3 x4))))
def T_X3_manyAt (σ : ST) (a0 : Int32) : Option Int32 := T_X3_manyAt_L4 σ FU a0 0 0
def T_X3_company_L46  : Nat → Int32 → Int32 → Int32 → ST → Option (Int32 × ST)
  | 0, _, _, _, _ => none
  | n + 1, v2, v4, v5, σ => if 10 ≤ v5 then cV (T_X3_manyAt σ v4) (fun x1 => cV (T_X3_forgets σ) (fun σ4 => if v2 = 0 then some (x1, σ4) else some (v4, σ4))) else cV (T_X3_manyAt σ v5) (fun x5 => cV (T_X3_manyAt σ v4) (fun x7 => if x5 ≤ x7 then vl (v5 + 1) (fun x9 => T_X3_company_L46 n v2 v4 x9 σ) else vl (v5 + 1) (fun x10 => T_X3_company_L46 n v2 v5 x10 σ)))
def T_X3_company_j21  (v1 : Int32) (v2 : Int32) (v3 : Int32) (σ : ST) : Option (Int32 × ST) := if v3 = 0 then cV (T_X3_thinks σ) (fun σ2 => cV (T_X3_goes v1 σ2) (fun σ4 => T_X3_company_L46 FU v2 0 1 σ4)) else cI (T_X3_no v3 σ) (fun x5 σ6 => some (x5, σ6))
def T_X3_company (a0 : Int32) (a1 : Int32) (σ : ST) : Option (Int32 × ST) := cV (T_X3_notHours σ a0) (fun x1 => if x1 = 0 then cV (T_X3_isIn σ a1 0 1) (fun x3 => if x3 = 0 then T_X3_company_j21 a0 a1 ((-2)) σ else T_X3_company_j21 a0 a1 x1 σ) else T_X3_company_j21 a0 a1 x1 σ)
def T_X3_outOf_j34 (K9 : Int32 → Int32 → Int32 → ST → Option (Int32 × ST)) (v1 : Int32) (v3 : Int32) (s0 : Int32) (σ : ST) : Option (Int32 × ST) := cV (T_X3_goesHour 0 σ) (fun σ2 => vl (v3 + 1) (fun x3 => K9 v1 s0 x3 σ2))
def T_X3_outOf_j46  (v2 : Int32) (σ : ST) : Option (Int32 × ST) := cV (T_X3_forgets σ) (fun σ2 => some (v2, σ2))
def T_X3_outOf_L9  : Nat → Int32 → Int32 → Int32 → ST → Option (Int32 × ST)
  | 0, _, _, _, _ => none
  | n + 1, v1, v2, v3, σ => if 60 < v3 then T_X3_outOf_j46 v2 σ else if 0 ≤ v2 then T_X3_outOf_j46 v2 σ else ld σ 13 10 5 v1 (fun x1 => if x1 = 0 then T_X3_outOf_j34 (fun v1 v2 v3 s => T_X3_outOf_L9 n v1 v2 v3 s) v1 v3 v3 σ else T_X3_outOf_j34 (fun v1 v2 v3 s => T_X3_outOf_L9 n v1 v2 v3 s) v1 v3 ((-9)) σ)
def T_X3_outOf (a0 : Int32) (σ : ST) : Option (Int32 × ST) := cV (T_X3_thinks σ) (fun σ2 => T_X3_outOf_L9 FU a0 ((-9)) 0 σ2)
def T_X3_breathless_L34  : Nat → Int32 → Int32 → ST → Option (Int32 × ST)
  | 0, _, _, _ => none
  | n + 1, v2, v3, σ => gf σ 13 12 (fun x1 => if x1 ≤ v3 then some (v2, σ) else cI (T_X3_outOf v3 σ) (fun x2 σ3 => if x2 < 0 then vl (v3 + 1) (fun x4 => T_X3_breathless_L34 n v2 x4 σ3) else if v2 < 0 then vl (v3 + 1) (fun x5 => T_X3_breathless_L34 n v3 x5 σ3) else cI (T_X3_outOf v3 σ3) (fun x6 σ7 => cI (T_X3_outOf v2 σ7) (fun x8 σ9 => if x8 ≤ x6 then vl (v3 + 1) (fun x10 => T_X3_breathless_L34 n v2 x10 σ9) else vl (v3 + 1) (fun x11 => T_X3_breathless_L34 n v3 x11 σ9)))))
def T_X3_breathless_j19  (v1 : Int32) (σ : ST) : Option (Int32 × ST) := if v1 < 0 then T_X3_breathless_L34 FU ((-9)) 0 σ else cI (T_X3_outOf v1 σ) (fun x1 σ2 => some (x1, σ2))
def T_X3_breathless (a0 : Int32) (σ : ST) : Option (Int32 × ST) := if a0 = ((-1)) then T_X3_breathless_j19 a0 σ else cV (T_X3_isBearer σ a0) (fun x1 => if x1 = 0 then cI (T_X3_no ((-1)) σ) (fun x3 σ4 => some (x3, σ4)) else T_X3_breathless_j19 a0 σ)
def T_X3_snapsIn (a0 : Int32) (σ : ST) : Option (Int32 × ST) := cV (T_X3_thinks σ) (fun σ2 => cV (T_X3_counts σ2) (fun σ4 => cV (T_X3_goes a0 σ4) (fun σ6 => cV (T_X3_forgets σ6) (fun σ8 => gf σ8 13 29 (fun x9 => some (x9, σ8))))))
def T_X3_bestColonel_L15  : Nat → Int32 → Int32 → Int32 → Int32 → Int32 → ST → Option (Int32 × ST)
  | 0, _, _, _, _, _, _ => none
  | n + 1, v1, v2, v3, v4, v5, σ => if 10 ≤ v5 then pf σ 13 14 v2 (fun σ1 => some (v3, σ1)) else pf σ 13 14 v5 (fun σ2 => cI (T_X3_snapsIn v1 σ2) (fun x3 σ4 => if x3 < v4 then vl (v5 + 1) (fun x5 => T_X3_bestColonel_L15 n v1 v2 v5 x3 x5 σ4) else vl (v5 + 1) (fun x6 => T_X3_bestColonel_L15 n v1 v2 v3 v4 x6 σ4)))
def T_X3_bestColonel (a0 : Int32) (σ : ST) : Option (Int32 × ST) := gf σ 13 14 (fun x1 => T_X3_bestColonel_L15 FU a0 x1 0 1000 0 σ)
def T_X3_leastLed_L22  : Nat → Int32 → Int32 → ST → Option (Int32 × ST)
  | 0, _, _, _ => none
  | n + 1, v2, v3, σ => gf σ 13 12 (fun x1 => if x1 ≤ v3 then some (v2, σ) else ld σ 13 27 5 v3 (fun x2 => ld σ 13 27 5 v2 (fun x3 => if x3 ≤ x2 then vl (v3 + 1) (fun x4 => T_X3_leastLed_L22 n v2 x4 σ) else vl (v3 + 1) (fun x5 => T_X3_leastLed_L22 n v3 x5 σ))))
def T_X3_leastLed (a0 : Int32) (σ : ST) : Option (Int32 × ST) := cI (T_X3_snapsIn a0 σ) (fun x1 σ2 => gf σ2 13 12 (fun x3 => if x3 = 0 then T_X3_leastLed_L22 FU ((-9)) 1 σ2 else T_X3_leastLed_L22 FU 0 1 σ2))
def T_X3_snaps_j21  (v1 : Int32) (v2 : Int32) (v3 : Int32) (σ : ST) : Option (Int32 × ST) := if v3 = 0 then if v2 = 0 then cI (T_X3_snapsIn v1 σ) (fun x5 σ6 => some (x5, σ6)) else if v2 = 1 then cI (T_X3_bestColonel v1 σ) (fun x3 σ4 => some (x3, σ4)) else cI (T_X3_leastLed v1 σ) (fun x1 σ2 => some (x1, σ2)) else cI (T_X3_no v3 σ) (fun x7 σ8 => some (x7, σ8))
def T_X3_snaps (a0 : Int32) (a1 : Int32) (σ : ST) : Option (Int32 × ST) := cV (T_X3_notHours σ a0) (fun x1 => if x1 = 0 then cV (T_X3_isIn σ a1 0 2) (fun x3 => if x3 = 0 then T_X3_snaps_j21 a0 a1 ((-2)) σ else T_X3_snaps_j21 a0 a1 x1 σ) else T_X3_snaps_j21 a0 a1 x1 σ)
def T_X3_comesTo_j39 (K11 : Int32 → Int32 → Int32 → Int32 → Int32 → ST → Option (Int32 × ST)) (v1 : Int32) (v2 : Int32) (v3 : Int32) (v5 : Int32) (s0 : Int32) (σ : ST) : Option (Int32 × ST) := cV (T_X3_goesHour 0 σ) (fun σ2 => vl (v5 + 1) (fun x3 => K11 v1 v2 v3 s0 x3 σ2))
def T_X3_comesTo_j52  (v4 : Int32) (σ : ST) : Option (Int32 × ST) := cV (T_X3_forgets σ) (fun σ2 => some (v4, σ2))
def T_X3_comesTo_L11  : Nat → Int32 → Int32 → Int32 → Int32 → Int32 → ST → Option (Int32 × ST)
  | 0, _, _, _, _, _, _ => none
  | n + 1, v1, v2, v3, v4, v5, σ => if v3 < v5 then T_X3_comesTo_j52 v4 σ else if 0 ≤ v4 then T_X3_comesTo_j52 v4 σ else ld σ 13 8 5 v1 (fun x1 => if x1 = v2 then T_X3_comesTo_j39 (fun v1 v2 v3 v4 v5 s => T_X3_comesTo_L11 n v1 v2 v3 v4 v5 s) v1 v2 v3 v5 v5 σ else T_X3_comesTo_j39 (fun v1 v2 v3 v4 v5 s => T_X3_comesTo_L11 n v1 v2 v3 v4 v5 s) v1 v2 v3 v5 ((-9)) σ)
def T_X3_comesTo (a0 : Int32) (a1 : Int32) (a2 : Int32) (σ : ST) : Option (Int32 × ST) := cV (T_X3_thinks σ) (fun σ2 => T_X3_comesTo_L11 FU a0 a1 a2 ((-9)) 0 σ2)
def T_X3_comesWith (a0 : Int32) (a1 : Int32) (a2 : Int32) (σ : ST) : Option (Int32 × ST) := cV (T_X3_passesAll 1 1 σ) (fun σ2 => cV (T_X3_givesHer a1 a0 σ2) (fun σ4 => cI (T_X3_comesTo a0 a2 60 σ4) (fun x5 σ6 => cV (T_X3_passesAll 1 0 σ6) (fun σ8 => some (x5, σ8)))))
def T_X3_bestBag_j98 (K59 : Int32 → Int32 → Int32 → Int32 → Int32 → Int32 → ST → Option (Int32 × ST)) (v1 : Int32) (v2 : Int32) (v3 : Int32) (v7 : Int32) (v8 : Int32) (σ : ST) : Option (Int32 × ST) := vl (v7 + 1) (fun x1 => K59 v1 v2 v3 v7 v8 x1 σ)
def T_X3_bestBag_L59  : Nat → Int32 → Int32 → Int32 → Int32 → Int32 → Int32 → ST → Option (Int32 × ST)
  | 0, _, _, _, _, _, _, _ => none
  | n + 1, v1, v2, v3, v5, v6, v7, σ => gf σ 13 11 (fun x1 => if x1 ≤ v7 then if v3 = 0 then some (v5, σ) else some (v6, σ) else cI (T_X3_comesWith v1 v7 v2 σ) (fun x2 σ3 => if x2 < 0 then vl (v7 + 1) (fun x4 => T_X3_bestBag_L59 n v1 v2 v3 v5 v6 x4 σ3) else if v5 < 0 then T_X3_bestBag_j98 (fun v1 v2 v3 v5 v6 v7 s => T_X3_bestBag_L59 n v1 v2 v3 v5 v6 v7 s) v1 v2 v3 v7 x2 σ3 else if x2 < v6 then T_X3_bestBag_j98 (fun v1 v2 v3 v5 v6 v7 s => T_X3_bestBag_L59 n v1 v2 v3 v5 v6 v7 s) v1 v2 v3 v7 x2 σ3 else vl (v7 + 1) (fun x5 => T_X3_bestBag_L59 n v1 v2 v3 v5 v6 x5 σ3)))
def T_X3_bestBag_j34  (v1 : Int32) (v2 : Int32) (v3 : Int32) (s0 : Int32) (σ : ST) : Option (Int32 × ST) := if s0 = 0 then T_X3_bestBag_L59 FU v1 v2 v3 ((-9)) ((-9)) 0 σ else cI (T_X3_no s0 σ) (fun x1 σ2 => some (x1, σ2))
def T_X3_bestBag_j15  (v1 : Int32) (v2 : Int32) (v3 : Int32) (σ : ST) : Option (Int32 × ST) := T_X3_bestBag_j34 v1 v2 v3 ((-1)) σ
def T_X3_bestBag (a0 : Int32) (a1 : Int32) (a2 : Int32) (σ : ST) : Option (Int32 × ST) := cV (T_X3_isBearer σ a0) (fun x1 => if x1 = 0 then T_X3_bestBag_j15 a0 a1 a2 σ else cV (T_X3_isPlace σ a1) (fun x3 => if x3 = 0 then T_X3_bestBag_j15 a0 a1 a2 σ else cV (T_X3_isIn σ a2 0 1) (fun x5 => if x5 = 0 then T_X3_bestBag_j34 a0 a1 a2 ((-2)) σ else T_X3_bestBag_j34 a0 a1 a2 0 σ)))
def T_X3_hers_j47 (K23 : Int32 → Int32 → Int32 → ST → Option (Int32 × ST)) (v1 : Int32) (v3 : Int32) (s0 : Int32) (σ : ST) : Option (Int32 × ST) := cV (T_X3_goesHour 0 σ) (fun σ2 => vl (v3 + 1) (fun x3 => K23 v1 s0 x3 σ2))
def T_X3_hers_j59  (v2 : Int32) (σ : ST) : Option (Int32 × ST) := cV (T_X3_forgets σ) (fun σ2 => some (v2, σ2))
def T_X3_hers_L23  : Nat → Int32 → Int32 → Int32 → ST → Option (Int32 × ST)
  | 0, _, _, _, _ => none
  | n + 1, v1, v2, v3, σ => if 60 < v3 then T_X3_hers_j59 v2 σ else if 0 ≤ v2 then T_X3_hers_j59 v2 σ else cV (T_X3_isLed σ v1) (fun x1 => if x1 = 0 then T_X3_hers_j47 (fun v1 v2 v3 s => T_X3_hers_L23 n v1 v2 v3 s) v1 v3 ((-9)) σ else T_X3_hers_j47 (fun v1 v2 v3 s => T_X3_hers_L23 n v1 v2 v3 s) v1 v3 v3 σ)
def T_X3_hers (a0 : Int32) (σ : ST) : Option (Int32 × ST) := cV (T_X3_isBearer σ a0) (fun x1 => if x1 = 0 then cI (T_X3_no ((-1)) σ) (fun x5 σ6 => some (x5, σ6)) else cV (T_X3_thinks σ) (fun σ4 => T_X3_hers_L23 FU a0 ((-9)) 0 σ4))
def T_X3_errandBy (a0 : Int32) (a1 : Int32) (a2 : Int32) (a3 : Int32) (σ : ST) : Option (Int32 × ST) := ld σ 13 7 5 a0 (fun x1 => ld σ 13 6 5 a0 (fun x2 => sd σ 13 7 5 a0 a1 (fun σ3 => sd σ3 13 6 5 a0 a2 (fun σ4 => cI (T_X3_comesTo a0 a1 a3 σ4) (fun x5 σ6 => sd σ6 13 7 5 a0 x1 (fun σ7 => sd σ7 13 6 5 a0 x2 (fun σ8 => some (x5, σ8))))))))
def T_X3_errand_j32  (σ : ST) : Option (Int32 × ST) := cI (T_X3_no ((-1)) σ) (fun x1 σ2 => some (x1, σ2))
def T_X3_errand (a0 : Int32) (a1 : Int32) (σ : ST) : Option (Int32 × ST) := cV (T_X3_isBearer σ a0) (fun x1 => if x1 = 0 then T_X3_errand_j32 σ else cV (T_X3_isPlace σ a1) (fun x3 => if x3 = 0 then T_X3_errand_j32 σ else ld σ 13 6 5 a0 (fun x5 => cI (T_X3_errandBy a0 a1 x5 60 σ) (fun x6 σ7 => some (x6, σ7)))))
def T_X3_defy_L40  : Nat → Int32 → Int32 → Int32 → Int32 → ST → Option (Int32 × ST)
  | 0, _, _, _, _, _ => none
  | n + 1, v1, v2, v3, v5, σ => if 10 ≤ v5 then some ((-9), σ) else cI (T_X3_errandBy v1 v2 v5 v3 σ) (fun x1 σ2 => if x1 < 0 then vl (v5 + 1) (fun x3 => T_X3_defy_L40 n v1 v2 v3 x3 σ2) else some (v5, σ2))
def T_X3_defy_j23  (v1 : Int32) (v2 : Int32) (v3 : Int32) (s0 : Int32) (σ : ST) : Option (Int32 × ST) := if s0 = 0 then T_X3_defy_L40 FU v1 v2 v3 0 σ else cI (T_X3_no s0 σ) (fun x1 σ2 => some (x1, σ2))
def T_X3_defy_j15  (v1 : Int32) (v2 : Int32) (v3 : Int32) (σ : ST) : Option (Int32 × ST) := T_X3_defy_j23 v1 v2 v3 ((-1)) σ
def T_X3_defy (a0 : Int32) (a1 : Int32) (a2 : Int32) (σ : ST) : Option (Int32 × ST) := cV (T_X3_isBearer σ a0) (fun x1 => if x1 = 0 then T_X3_defy_j15 a0 a1 a2 σ else cV (T_X3_isPlace σ a1) (fun x3 => if x3 = 0 then T_X3_defy_j15 a0 a1 a2 σ else cV (T_X3_notHours σ a2) (fun x5 => T_X3_defy_j23 a0 a1 a2 x5 σ)))
def T_X3_digitOf_L7 (σ : ST) : Nat → Int32 → Int32 → Option Int32
  | 0, _, _ => none
  | n + 1, v3, v4 => gf σ 13 12 (fun x1 => if x1 ≤ v4 then some (v3 - v3 / 7 * 7) else vl (v3 / 7) (fun x2 => vl (v4 + 1) (fun x3 => T_X3_digitOf_L7 σ n x2 x3)))
def T_X3_digitOf (σ : ST) (a0 : Int32) (a1 : Int32) : Option Int32 := vl (a1 + 1) (fun x1 => T_X3_digitOf_L7 σ FU a0 x1)
def T_X3_isWay_j95 (σ : ST) (s0 : Int32) (s1 : Int32) : Option Int32 := if s1 = s0 then some 1 else some 0
def T_X3_isWay_L7 (σ : ST) : Nat → Int32 → Int32 → Int32 → Int32 → Option Int32
  | 0, _, _, _, _ => none
  | n + 1, v1, v2, v3, v4 => gf σ 13 12 (fun x1 => if x1 ≤ v4 then gf σ 13 11 (fun x2 => gf σ 13 12 (fun x3 => if x3 ≤ x2 then gf σ 13 12 (fun x4 => T_X3_isWay_j95 σ x4 v3) else gf σ 13 11 (fun x5 => T_X3_isWay_j95 σ x5 v3))) else cV (T_X3_digitOf σ v1 v4) (fun x6 => if x6 = 6 then vl (v4 + 1) (fun x12 => T_X3_isWay_L7 σ n v1 v2 v3 x12) else gf σ 13 11 (fun x8 => if x8 ≤ x6 then some 0 else if ((v2 >>> (x6 &&& 31)) &&& 1) = 1 then some 0 else vl (v2 ||| (1 <<< (x6 &&& 31))) (fun x9 => vl (v3 + 1) (fun x10 => vl (v4 + 1) (fun x11 => T_X3_isWay_L7 σ n v1 x9 x10 x11))))))
def T_X3_isWay (σ : ST) (a0 : Int32) : Option Int32 := T_X3_isWay_L7 σ FU a0 0 0 0
def T_X3_givesAll_j34 (K2 : Int32 → Int32 → ST → Option ST) (v1 : Int32) (v2 : Int32) (v3 : Int32) (s0 : Int32) (s1 : Int32) (σ : ST) : Option ST := sd σ 13 9 5 s1 s0 (fun σ1 => if 6 ≤ v3 then vl (v2 + 1) (fun x2 => K2 v1 x2 σ1) else sd σ1 13 5 6 v3 0 (fun σ3 => vl (v2 + 1) (fun x4 => K2 v1 x4 σ3)))
def T_X3_givesAll_L2  : Nat → Int32 → Int32 → ST → Option ST
  | 0, _, _, _ => none
  | n + 1, v1, v2, σ => gf σ 13 12 (fun x1 => if x1 ≤ v2 then some σ else cV (T_X3_digitOf σ v1 v2) (fun x2 => if x2 = 6 then T_X3_givesAll_j34 (fun v1 v2 s => T_X3_givesAll_L2 n v1 v2 s) v1 v2 x2 9 v2 σ else T_X3_givesAll_j34 (fun v1 v2 s => T_X3_givesAll_L2 n v1 v2 s) v1 v2 x2 x2 v2 σ))
def T_X3_givesAll (a0 : Int32) (σ : ST) : Option ST := T_X3_givesAll_L2 FU a0 0 σ
def T_X3_manyWays_L4 (σ : ST) : Nat → Int32 → Int32 → Option Int32
  | 0, _, _ => none
  | n + 1, v1, v2 => gf σ 13 12 (fun x1 => if x1 ≤ v2 then some v1 else vl (v1 * 7) (fun x2 => vl (v2 + 1) (fun x3 => T_X3_manyWays_L4 σ n x2 x3)))
def T_X3_manyWays (σ : ST) : Option Int32 := T_X3_manyWays_L4 σ FU 1 0
def T_X3_allLed_L10  : Nat → Int32 → Int32 → ST → Option (Int32 × ST)
  | 0, _, _, _ => none
  | n + 1, v2, v3, σ => gf σ 13 12 (fun x1 => if x1 ≤ v3 then some (v2, σ) else ld σ 13 27 5 v3 (fun x2 => vl (v2 + x2) (fun x3 => vl (v3 + 1) (fun x4 => T_X3_allLed_L10 n x3 x4 σ))))
def T_X3_allLed (a0 : Int32) (σ : ST) : Option (Int32 × ST) := cI (T_X3_snapsIn a0 σ) (fun x1 σ2 => T_X3_allLed_L10 FU 0 0 σ2)
def T_X3_bestWay_j93 (K7 : Int32 → Int32 → Int32 → Int32 → Int32 → ST → Option (Int32 × ST)) (v1 : Int32) (v2 : Int32) (v3 : Int32) (v5 : Int32) (v6 : Int32) (σ : ST) : Option (Int32 × ST) := pf σ 13 31 v6 (fun σ1 => vl (v5 + 1) (fun x2 => K7 v1 v2 v3 v5 x2 σ1))
def T_X3_bestWay_j76 (K7 : Int32 → Int32 → Int32 → Int32 → Int32 → ST → Option (Int32 × ST)) (v1 : Int32) (v2 : Int32) (v3 : Int32) (v4 : Int32) (v5 : Int32) (v6 : Int32) (σ : ST) : Option (Int32 × ST) := if v4 < 0 then T_X3_bestWay_j93 K7 v1 v2 v3 v5 v6 σ else gf σ 13 31 (fun x1 => if v6 < x1 then T_X3_bestWay_j93 K7 v1 v2 v3 v5 v6 σ else vl (v5 + 1) (fun x2 => K7 v1 v2 v3 v4 x2 σ))
def T_X3_bestWay_j58 (K7 : Int32 → Int32 → Int32 → Int32 → Int32 → ST → Option (Int32 × ST)) (v1 : Int32) (v2 : Int32) (v3 : Int32) (v4 : Int32) (v5 : Int32) (s0 : Int32) (σ : ST) : Option (Int32 × ST) := cV (T_X3_passesAll 1 0 σ) (fun σ2 => if 0 ≤ s0 then T_X3_bestWay_j76 K7 v1 v2 v3 v4 v5 s0 σ2 else T_X3_bestWay_j76 K7 v1 v2 v3 v4 v5 1000 σ2)
def T_X3_bestWay_L7  : Nat → Int32 → Int32 → Int32 → Int32 → Int32 → ST → Option (Int32 × ST)
  | 0, _, _, _, _, _, _ => none
  | n + 1, v1, v2, v3, v4, v5, σ => cV (T_X3_manyWays σ) (fun x1 => if x1 ≤ v5 then some (v4, σ) else cV (T_X3_isWay σ v5) (fun x3 => if x3 = 0 then vl (v5 + 1) (fun x13 => T_X3_bestWay_L7 n v1 v2 v3 v4 x13 σ) else cV (T_X3_passesAll 1 1 σ) (fun σ6 => cV (T_X3_givesAll v5 σ6) (fun σ8 => if 0 ≤ v1 then cI (T_X3_meetsIn v1 v2 σ8) (fun x9 σ10 => T_X3_bestWay_j58 (fun v1 v2 v3 v4 v5 s => T_X3_bestWay_L7 n v1 v2 v3 v4 v5 s) v1 v2 v3 v4 v5 x9 σ10) else cI (T_X3_allLed v3 σ8) (fun x11 σ12 => T_X3_bestWay_j58 (fun v1 v2 v3 v4 v5 s => T_X3_bestWay_L7 n v1 v2 v3 v4 v5 s) v1 v2 v3 v4 v5 x11 σ12)))))
def T_X3_bestWay (a0 : Int32) (a1 : Int32) (a2 : Int32) (σ : ST) : Option (Int32 × ST) := T_X3_bestWay_L7 FU a0 a1 a2 ((-9)) 0 σ
def T_X3_bagBy (σ : ST) (a0 : Int32) (a1 : Int32) : Option Int32 := gf σ 13 12 (fun x1 => if x1 ≤ a1 then some ((-9)) else cV (T_X3_digitOf σ a0 a1) (fun x2 => if x2 = 6 then some ((-9)) else cV (T_X3_digitOf σ a0 a1) (fun x4 => some x4)))
def T_X3_given_j37  (v1 : Int32) (v2 : Int32) (v3 : Int32) (s0 : Int32) (σ : ST) : Option (Int32 × ST) := if s0 = 0 then cI (T_X3_bestWay v1 v2 0 σ) (fun x1 σ2 => if v3 < 0 then gf σ2 13 31 (fun x3 => if x3 = 1000 then some ((-9), σ2) else gf σ2 13 31 (fun x4 => some (x4, σ2))) else cV (T_X3_bagBy σ2 x1 v3) (fun x5 => some (x5, σ2))) else cI (T_X3_no s0 σ) (fun x7 σ8 => some (x7, σ8))
def T_X3_given (a0 : Int32) (a1 : Int32) (a2 : Int32) (σ : ST) : Option (Int32 × ST) := cV (T_X3_areTwo σ a0 a1) (fun x1 => if x1 = 0 then T_X3_given_j37 a0 a1 a2 ((-1)) σ else if ((-1)) ≤ a2 then gf σ 13 12 (fun x3 => if x3 ≤ 4 then T_X3_given_j37 a0 a1 a2 0 σ else T_X3_given_j37 a0 a1 a2 ((-3)) σ) else T_X3_given_j37 a0 a1 a2 ((-4)) σ)
def T_X3_quiet_j39  (v1 : Int32) (v2 : Int32) (s0 : Int32) (σ : ST) : Option (Int32 × ST) := if s0 = 0 then cI (T_X3_bestWay ((-1)) ((-1)) v1 σ) (fun x1 σ2 => if v2 < 0 then gf σ2 13 31 (fun x3 => some (x3, σ2)) else cV (T_X3_bagBy σ2 x1 v2) (fun x4 => some (x4, σ2))) else cI (T_X3_no s0 σ) (fun x6 σ7 => some (x6, σ7))
def T_X3_quiet_j9  (v1 : Int32) (v2 : Int32) (σ : ST) : Option (Int32 × ST) := T_X3_quiet_j39 v1 v2 ((-4)) σ
def T_X3_quiet (a0 : Int32) (a1 : Int32) (σ : ST) : Option (Int32 × ST) := if a1 < ((-1)) then T_X3_quiet_j9 a0 a1 σ else if 0 ≤ a0 then if a0 ≤ 60 then gf σ 13 12 (fun x1 => if x1 ≤ 4 then T_X3_quiet_j39 a0 a1 0 σ else T_X3_quiet_j39 a0 a1 ((-3)) σ) else T_X3_quiet_j39 a0 a1 ((-6)) σ else T_X3_quiet_j9 a0 a1 σ
def T_X3_plainPull (σ : ST) (a0 : Int32) : Option Int32 := ld σ 13 1 6 a0 (fun x1 => if x1 = 2 then ld σ 13 2 6 a0 (fun x7 => some (x7 + 4)) else ld σ 13 1 6 a0 (fun x2 => if x2 = 3 then ld σ 13 2 6 a0 (fun x6 => some (x6 / 2)) else ld σ 13 1 6 a0 (fun x3 => if x3 = 5 then ld σ 13 2 6 a0 (fun x5 => some (2 * x5)) else ld σ 13 2 6 a0 (fun x4 => some x4))))
def T_X3_nextAsked_L5 (σ : ST) : Nat → Int32 → Int32 → Int32 → Option Int32
  | 0, _, _, _ => none
  | n + 1, v1, v2, v3 => gf σ 13 11 (fun x1 => if x1 ≤ v3 then some v2 else ld σ 13 32 5 v1 (fun x2 => if ((x2 >>> (v3 &&& 31)) &&& 1) = 0 then if v2 < 0 then vl (v3 + 1) (fun x4 => T_X3_nextAsked_L5 σ n v1 v3 x4) else cV (T_X3_plainPull σ v3) (fun x5 => cV (T_X3_plainPull σ v2) (fun x7 => if x7 ≤ x5 then vl (v3 + 1) (fun x9 => T_X3_nextAsked_L5 σ n v1 v2 x9) else vl (v3 + 1) (fun x10 => T_X3_nextAsked_L5 σ n v1 v3 x10))) else vl (v3 + 1) (fun x3 => T_X3_nextAsked_L5 σ n v1 v2 x3)))
def T_X3_nextAsked (σ : ST) (a0 : Int32) : Option Int32 := T_X3_nextAsked_L5 σ FU a0 ((-9)) 0
def T_X3_isRather (σ : ST) (a0 : Int32) (a1 : Int32) : Option Int32 := if a1 = 9 then some 1 else ld σ 13 6 5 a0 (fun x1 => ld σ 13 6 5 a1 (fun x2 => if x1 < x2 then some 1 else ld σ 13 6 5 a0 (fun x3 => ld σ 13 6 5 a1 (fun x4 => if x3 = x4 then if a1 ≤ a0 then some 0 else some 1 else some 0))))
def T_X3_isKept_L2 (σ : ST) : Nat → Int32 → Int32 → Option Int32
  | 0, _, _ => none
  | n + 1, v1, v2 => gf σ 13 11 (fun x1 => if x1 ≤ v2 then some 0 else ld σ 13 33 6 v2 (fun x2 => if x2 = v1 then some 1 else vl (v2 + 1) (fun x3 => T_X3_isKept_L2 σ n v1 x3)))
def T_X3_isKept (σ : ST) (a0 : Int32) : Option Int32 := T_X3_isKept_L2 σ FU a0 0
def T_X3_asks_j18  (v1 : Int32) (s0 : Int32) (σ : ST) : Option (Int32 × ST) := if 0 ≤ s0 then ld σ 13 32 5 v1 (fun x1 => sd σ 13 32 5 v1 (x1 ||| (1 <<< (s0 &&& 31))) (fun σ2 => ld σ2 13 33 6 s0 (fun x3 => cV (T_X3_isRather σ2 v1 x3) (fun x4 => if x4 = 0 then some (1, σ2) else sd σ2 13 33 6 s0 v1 (fun σ6 => some (1, σ6)))))) else some (0, σ)
def T_X3_asks (a0 : Int32) (σ : ST) : Option (Int32 × ST) := cV (T_X3_isKept σ a0) (fun x1 => if x1 = 0 then cV (T_X3_nextAsked σ a0) (fun x3 => T_X3_asks_j18 a0 x3 σ) else T_X3_asks_j18 a0 ((-9)) σ)
def T_X3_stable_L66 (K58 : Int32 → Int32 → ST → Option (Int32 × ST)) : Nat → Int32 → Int32 → Int32 → ST → Option (Int32 × ST)
  | 0, _, _, _, _ => none
  | n + 1, v1, v2, v3, σ => gf σ 13 12 (fun x1 => if x1 ≤ v3 then K58 v1 v2 σ else cI (T_X3_asks v3 σ) (fun x2 σ3 => vl (v2 ||| x2) (fun x4 => vl (v3 + 1) (fun x5 => T_X3_stable_L66 K58 n v1 x4 x5 σ3))))
def T_X3_stable_L93  : Nat → Int32 → Int32 → ST → Option (Int32 × ST)
  | 0, _, _, _ => none
  | n + 1, v1, v3, σ => gf σ 13 11 (fun x1 => if x1 ≤ v3 then some ((-9), σ) else ld σ 13 33 6 v3 (fun x2 => if x2 = v1 then some (v3, σ) else vl (v3 + 1) (fun x3 => T_X3_stable_L93 n v1 x3 σ)))
def T_X3_stable_L58  : Nat → Int32 → Int32 → ST → Option (Int32 × ST)
  | 0, _, _, _ => none
  | n + 1, v1, v2, σ => if v2 = 0 then T_X3_stable_L93 FU v1 0 σ else T_X3_stable_L66 (fun v1 v2 s => T_X3_stable_L58 n v1 v2 s) FU v1 0 0 σ
def T_X3_stable_L36  : Nat → Int32 → Int32 → ST → Option (Int32 × ST)
  | 0, _, _, _ => none
  | n + 1, v1, v2, σ => if 6 ≤ v2 then T_X3_stable_L58 FU v1 1 σ else sd σ 13 33 6 v2 9 (fun σ1 => vl (v2 + 1) (fun x2 => T_X3_stable_L36 n v1 x2 σ1))
def T_X3_stable_L16  : Nat → Int32 → Int32 → ST → Option (Int32 × ST)
  | 0, _, _, _ => none
  | n + 1, v1, v2, σ => if 5 ≤ v2 then T_X3_stable_L36 FU v1 0 σ else sd σ 13 32 5 v2 0 (fun σ1 => vl (v2 + 1) (fun x2 => T_X3_stable_L16 n v1 x2 σ1))
def T_X3_stable (a0 : Int32) (σ : ST) : Option (Int32 × ST) := cV (T_X3_isBearer σ a0) (fun x1 => if x1 = 0 then cI (T_X3_no ((-1)) σ) (fun x3 σ4 => some (x3, σ4)) else T_X3_stable_L16 FU a0 0 σ)
def T_X3_walksSo_j40 (K8 : Int32 → Int32 → Int32 → ST → Option (Int32 × ST)) (v1 : Int32) (v3 : Int32) (s0 : Int32) (σ : ST) : Option (Int32 × ST) := cV (T_X3_goesHour 0 σ) (fun σ2 => vl (v3 + 1) (fun x3 => K8 v1 s0 x3 σ2))
def T_X3_walksSo_j52  (v2 : Int32) (σ : ST) : Option (Int32 × ST) := cV (T_X3_forgets σ) (fun σ2 => rz v2 (some (v2, σ2)))
def T_X3_walksSo_L8  : Nat → Int32 → Int32 → Int32 → ST → Option (Int32 × ST)
  | 0, _, _, _, _ => none
  | n + 1, v1, v2, v3, σ => gf σ 13 35 (fun x1 => if x1 ≤ v3 then T_X3_walksSo_j52 v2 σ else if v2 = 0 then T_X3_walksSo_j52 v2 σ else ld σ 13 8 5 v1 (fun x2 => ld σ 13 34 12 v3 (fun x3 => if x2 = x3 then T_X3_walksSo_j40 (fun v1 v2 v3 s => T_X3_walksSo_L8 n v1 v2 v3 s) v1 v3 1 σ else T_X3_walksSo_j40 (fun v1 v2 v3 s => T_X3_walksSo_L8 n v1 v2 v3 s) v1 v3 0 σ)))
def T_X3_walksSo (a0 : Int32) (σ : ST) : Option (Int32 × ST) := cV (T_X3_thinks σ) (fun σ2 => T_X3_walksSo_L8 FU a0 1 0 σ2)
def T_X3_bitsFor_L11 (f1 n1 : Nat) : Nat → Int32 → Int32 → Int32 → Int32 → Int32 → Int32 → ST → Option (Int32 × ST)
  | 0, _, _, _, _, _, _, _ => none
  | n + 1, v1, v3, v4, v5, v6, v7, σ => if v4 ≤ v7 then sd σ 13 f1 n1 v3 v5 (fun σ1 => some (v6, σ1)) else sd σ 13 f1 n1 v3 v7 (fun σ2 => cI (T_X3_walksSo v1 σ2) (fun x3 σ4 => if x3 = 0 then vl (v6 ||| 0) (fun x5 => vl (v7 + 1) (fun x6 => T_X3_bitsFor_L11 f1 n1 n v1 v3 v4 v5 x5 x6 σ4)) else vl (v6 ||| (1 <<< (v7 &&& 31))) (fun x7 => vl (v7 + 1) (fun x8 => T_X3_bitsFor_L11 f1 n1 n v1 v3 v4 v5 x7 x8 σ4))))
def T_X3_bitsFor (f1 n1 : Nat) (a0 : Int32) (a2 : Int32) (a3 : Int32) (σ : ST) : Option (Int32 × ST) := ld σ 13 f1 n1 a2 (fun x1 => T_X3_bitsFor_L11 f1 n1 FU a0 a2 a3 x1 0 0 σ)
def T_X3_whose_j115  (v4 : Int32) (s0 : Nat) (ns0 : Nat) (s1 : Int32) (σ : ST) : Option (Int32 × ST) := cI (T_X3_bitsFor s0 ns0 s1 v4 10 σ) (fun x1 σ2 => some (x1, σ2))
def T_X3_whose_j27  (v1 : Int32) (v2 : Int32) (s0 : Int32) (σ : ST) : Option (Int32 × ST) := if s0 = 0 then ld σ 13 9 5 v1 (fun x1 => if x1 = 9 then some (0, σ) else ld σ 13 9 5 v1 (fun x2 => if v2 = 3 then cI (T_X3_bitsFor 6 5 v1 v1 10 σ) (fun x5 σ6 => some (x5, σ6)) else if v2 = 0 then cI (T_X3_bitsFor 1 6 v1 x2 6 σ) (fun x3 σ4 => some (x3, σ4)) else if v2 = 1 then T_X3_whose_j115 x2 2 6 v1 σ else T_X3_whose_j115 x2 3 6 v1 σ)) else cI (T_X3_no s0 σ) (fun x7 σ8 => some (x7, σ8))
def T_X3_whose (a0 : Int32) (a1 : Int32) (σ : ST) : Option (Int32 × ST) := cV (T_X3_isBearer σ a0) (fun x1 => if x1 = 0 then T_X3_whose_j27 a0 a1 ((-1)) σ else cV (T_X3_isIn σ a1 0 3) (fun x3 => if x3 = 0 then T_X3_whose_j27 a0 a1 ((-2)) σ else T_X3_whose_j27 a0 a1 0 σ))
def T_X3_atIn (a0 : Int32) (a1 : Int32) (σ : ST) : Option (Int32 × ST) := cV (T_X3_thinks σ) (fun σ2 => cV (T_X3_goes a1 σ2) (fun σ4 => ld σ4 13 8 5 a0 (fun x5 => cV (T_X3_forgets σ4) (fun σ7 => some (x5, σ7)))))
def T_X3_unlikeBy_L69  : Nat → Int32 → Int32 → Int32 → ST → Option (Int32 × ST)
  | 0, _, _, _, _ => none
  | n + 1, v5, v6, v7, σ => if 10 ≤ v7 then some (v6, σ) else vl (v6 + ((v5 >>> (v7 &&& 31)) &&& 1)) (fun x1 => vl (v7 + 1) (fun x2 => T_X3_unlikeBy_L69 n v5 x1 x2 σ))
def T_X3_unlikeBy_L21  : Nat → Int32 → Int32 → Int32 → Int32 → Int32 → Int32 → ST → Option (Int32 × ST)
  | 0, _, _, _, _, _, _, _ => none
  | n + 1, v1, v2, v3, v4, v5, v6, σ => if 6 ≤ v6 then sd σ 13 1 6 v3 v4 (fun σ1 => T_X3_unlikeBy_L69 FU v5 0 0 σ1) else sd σ 13 1 6 v3 v6 (fun σ2 => cI (T_X3_atIn v1 v2 σ2) (fun x3 σ4 => vl (v5 ||| (1 <<< (x3 &&& 31))) (fun x5 => vl (v6 + 1) (fun x6 => T_X3_unlikeBy_L21 n v1 v2 v3 v4 x5 x6 σ4))))
def T_X3_unlikeBy (a0 : Int32) (a1 : Int32) (σ : ST) : Option (Int32 × ST) := ld σ 13 9 5 a0 (fun x1 => ld σ 13 1 6 x1 (fun x2 => T_X3_unlikeBy_L21 FU a0 a1 x1 x2 0 0 σ))
def T_X3_nextTell_L76  : Nat → Int32 → Int32 → Int32 → Int32 → Int32 → Int32 → Int32 → ST → Option (Int32 × ST)
  | 0, _, _, _, _, _, _, _, _ => none
  | n + 1, v1, v2, v3, v5, v6, v7, v8, σ => if 10 ≤ v8 then pf σ 13 14 v5 (fun σ1 => if v3 = 0 then some (v6, σ1) else some (v7, σ1)) else pf σ 13 14 v8 (fun σ2 => cI (T_X3_unlikeBy v1 v2 σ2) (fun x3 σ4 => if v7 < x3 then vl (v8 + 1) (fun x5 => T_X3_nextTell_L76 n v1 v2 v3 v5 v8 x3 x5 σ4) else vl (v8 + 1) (fun x6 => T_X3_nextTell_L76 n v1 v2 v3 v5 v6 v7 x6 σ4)))
def T_X3_nextTell_j36  (v1 : Int32) (v2 : Int32) (v3 : Int32) (v4 : Int32) (σ : ST) : Option (Int32 × ST) := if v4 = 0 then ld σ 13 9 5 v1 (fun x1 => if x1 = 9 then some (v3, σ) else gf σ 13 14 (fun x2 => T_X3_nextTell_L76 FU v1 v2 v3 x2 0 0 0 σ)) else cI (T_X3_no v4 σ) (fun x3 σ4 => some (x3, σ4))
def T_X3_nextTell_j16  (v1 : Int32) (v2 : Int32) (v3 : Int32) (s0 : Int32) (σ : ST) : Option (Int32 × ST) := if s0 = 0 then cV (T_X3_isIn σ v3 0 1) (fun x1 => if x1 = 0 then T_X3_nextTell_j36 v1 v2 v3 ((-2)) σ else T_X3_nextTell_j36 v1 v2 v3 s0 σ) else T_X3_nextTell_j36 v1 v2 v3 s0 σ
def T_X3_nextTell (a0 : Int32) (a1 : Int32) (a2 : Int32) (σ : ST) : Option (Int32 × ST) := cV (T_X3_isBearer σ a0) (fun x1 => if x1 = 0 then T_X3_nextTell_j16 a0 a1 a2 ((-1)) σ else cV (T_X3_notHours σ a1) (fun x3 => T_X3_nextTell_j16 a0 a1 a2 x3 σ))
def T_X3_above (σ : ST) (a0 : Int32) : Option Int32 := ld σ 13 9 5 a0 (fun x1 => if x1 = 9 then some 0 else ld σ 13 9 5 a0 (fun x2 => cV (T_X3_pullOf σ x2) (fun x3 => ld σ 13 6 5 a0 (fun x5 => some (x3 - x5)))))
def T_X3_goesArm_L103  : Nat → Int32 → Int32 → Int32 → Int32 → ST → Option ST
  | 0, _, _, _, _, _ => none
  | n + 1, v1, v2, v5, v6, σ => if v6 ≤ 0 then ld σ 13 8 5 v1 (fun x1 => sd σ 13 8 5 v2 x1 (fun σ2 => some σ2)) else ld σ 13 8 5 v1 (fun x3 => cV (T_X3_towards σ x3 v5) (fun x4 => sd σ 13 8 5 v1 x4 (fun σ6 => vl (v6 + (-1)) (fun x7 => T_X3_goesArm_L103 n v1 v2 v5 x7 σ6))))
def T_X3_goesArm_j74  (v1 : Int32) (v2 : Int32) (v3 : Int32) (v4 : Int32) (s0 : Int32) (σ : ST) : Option ST := if v4 = 0 then T_X3_goesArm_L103 FU v1 v2 s0 1 σ else ld σ 13 9 5 v3 (fun x1 => ld σ 13 1 6 x1 (fun x2 => if x2 = 5 then T_X3_goesArm_L103 FU v1 v2 s0 2 σ else T_X3_goesArm_L103 FU v1 v2 s0 1 σ))
def T_X3_goesArm_j42  (v1 : Int32) (v2 : Int32) (v3 : Int32) (s0 : Int32) (σ : ST) : Option ST := if s0 = 0 then ld σ 13 7 5 v1 (fun x1 => T_X3_goesArm_j74 v1 v2 v3 s0 x1 σ) else ld σ 13 9 5 v3 (fun x2 => ld σ 13 7 5 v3 (fun x3 => cV (T_X3_goalOf σ x2 x3) (fun x4 => T_X3_goesArm_j74 v1 v2 v3 s0 x4 σ)))
def T_X3_goesArm_j28  (v1 : Int32) (v2 : Int32) (s0 : Int32) (σ : ST) : Option ST := cV (T_X3_above σ s0) (fun x1 => if x1 ≤ 0 then T_X3_goesArm_j42 v1 v2 s0 0 σ else T_X3_goesArm_j42 v1 v2 s0 1 σ)
def T_X3_goesArm (a0 : Int32) (a1 : Int32) (σ : ST) : Option ST := gf σ 13 13 (fun x1 => pf σ 13 13 (x1 + 1) (fun σ2 => cV (T_X3_above σ2 a1) (fun x3 => cV (T_X3_above σ2 a0) (fun x5 => if x3 ≤ x5 then T_X3_goesArm_j28 a0 a1 a0 σ2 else T_X3_goesArm_j28 a0 a1 a1 σ2))))
def T_X3_arm_L50  : Nat → Int32 → Int32 → Int32 → Int32 → ST → Option (Int32 × ST)
  | 0, _, _, _, _, _ => none
  | n + 1, v1, v2, v3, v5, σ => if v3 ≤ v5 then ld σ 13 8 5 v1 (fun x1 => cV (T_X3_forgets σ) (fun σ3 => some (x1, σ3))) else cV (T_X3_goesArm v1 v2 σ) (fun σ5 => vl (v5 + 1) (fun x6 => T_X3_arm_L50 n v1 v2 v3 x6 σ5))
def T_X3_arm_j17  (v1 : Int32) (v2 : Int32) (v3 : Int32) (s0 : Int32) (σ : ST) : Option (Int32 × ST) := if s0 = 0 then cV (T_X3_thinks σ) (fun σ2 => ld σ2 13 8 5 v1 (fun x3 => sd σ2 13 8 5 v2 x3 (fun σ4 => T_X3_arm_L50 FU v1 v2 v3 0 σ4))) else cI (T_X3_no s0 σ) (fun x5 σ6 => some (x5, σ6))
def T_X3_arm (a0 : Int32) (a1 : Int32) (a2 : Int32) (σ : ST) : Option (Int32 × ST) := cV (T_X3_areTwo σ a0 a1) (fun x1 => if x1 = 0 then T_X3_arm_j17 a0 a1 a2 ((-1)) σ else cV (T_X3_notHours σ a2) (fun x3 => T_X3_arm_j17 a0 a1 a2 x3 σ))
def T_X3_divisor_L6 (σ : ST) : Nat → Int64 → Int64 → Option Int64
  | 0, _, _ => none
  | n + 1, v4, v6 => if (lg_cmp v6 0) = 0 then some v4 else nzl v6 (vL (v4 - v4 / v6 * v6) (fun x1 => T_X3_divisor_L6 σ n v6 x1))
def T_X3_divisor (σ : ST) (a0 : Int64) (a1 : Int64) : Option Int64 := T_X3_divisor_L6 σ FU a0 a1
def T_X3_sleep_j177 (K119 : Int32 → Int32 → Int32 → Int32 → Int32 → Int64 → Int64 → Int32 → ST → Option (Int64 × ST)) (K137 : Int32 → Int32 → Int32 → Int32 → Int32 → Int64 → Int64 → Int32 → Int64 → Int32 → ST → Option (Int64 × ST)) (v1 : Int32) (v2 : Int32) (v3 : Int32) (v4 : Int32) (v5 : Int32) (v7 : Int64) (v9 : Int64) (v11 : Int32) (v14 : Int32) (v15 : Int32) (s0 : Int64) (s1 : Int64) (σ : ST) : Option (Int64 × ST) := vL (s1 * s0) (fun x1 => cV (T_X3_goesHour v15 σ) (fun σ3 => vl (v14 + 1) (fun x4 => K137 v1 v2 v3 v4 v5 v7 v9 v11 x1 x4 σ3)))
def T_X3_sleep_j159 (K119 : Int32 → Int32 → Int32 → Int32 → Int32 → Int64 → Int64 → Int32 → ST → Option (Int64 × ST)) (K137 : Int32 → Int32 → Int32 → Int32 → Int32 → Int64 → Int64 → Int32 → Int64 → Int32 → ST → Option (Int64 × ST)) (v1 : Int32) (v2 : Int32) (v3 : Int32) (v4 : Int32) (v5 : Int32) (v7 : Int64) (v9 : Int64) (v11 : Int32) (v12 : Int64) (v14 : Int32) (s0 : Int32) (σ : ST) : Option (Int64 × ST) := if s0 = 0 then T_X3_sleep_j177 K119 K137 v1 v2 v3 v4 v5 v7 v9 v11 v14 s0 ((v4 - 1).toInt64) v12 σ else T_X3_sleep_j177 K119 K137 v1 v2 v3 v4 v5 v7 v9 v11 v14 s0 1 v12 σ
def T_X3_sleep_j210 (K119 : Int32 → Int32 → Int32 → Int32 → Int32 → Int64 → Int64 → Int32 → ST → Option (Int64 × ST)) (v1 : Int32) (v2 : Int32) (v3 : Int32) (v4 : Int32) (v5 : Int32) (v9 : Int64) (v11 : Int32) (s0 : Int64) (s1 : Int64) (σ : ST) : Option (Int64 × ST) := vL (s1 + s0) (fun x1 => cV (T_X3_forgets σ) (fun σ3 => vl (v11 + 1) (fun x4 => K119 v1 v2 v3 v4 v5 x1 v9 x4 σ3)))
def T_X3_sleep_L137 (K119 : Int32 → Int32 → Int32 → Int32 → Int32 → Int64 → Int64 → Int32 → ST → Option (Int64 × ST)) : Nat → Int32 → Int32 → Int32 → Int32 → Int32 → Int64 → Int64 → Int32 → Int64 → Int32 → ST → Option (Int64 × ST)
  | 0, _, _, _, _, _, _, _, _, _, _, _ => none
  | n + 1, v1, v2, v3, v4, v5, v7, v9, v11, v12, v14, σ => if v3 ≤ v14 then ld σ 13 8 5 v1 (fun x1 => if x1 = v2 then T_X3_sleep_j210 K119 v1 v2 v3 v4 v5 v9 v11 v12 v7 σ else T_X3_sleep_j210 K119 v1 v2 v3 v4 v5 v9 v11 0 v7 σ) else if ((v11 >>> (v14 &&& 31)) &&& 1) = 1 then T_X3_sleep_j159 K119 (fun v1 v2 v3 v4 v5 v7 v9 v11 v12 v14 s => T_X3_sleep_L137 K119 n v1 v2 v3 v4 v5 v7 v9 v11 v12 v14 s) v1 v2 v3 v4 v5 v7 v9 v11 v12 v14 1 σ else T_X3_sleep_j159 K119 (fun v1 v2 v3 v4 v5 v7 v9 v11 v12 v14 s => T_X3_sleep_L137 K119 n v1 v2 v3 v4 v5 v7 v9 v11 v12 v14 s) v1 v2 v3 v4 v5 v7 v9 v11 v12 v14 0 σ
def T_X3_sleep_j235  (v7 : Int64) (v9 : Int64) (s0 : Int64) (σ : ST) : Option (Int64 × ST) := cV (T_X3_divisor σ v7 v9) (fun x1 => nzl x1 (some (s0 / x1, σ)))
def T_X3_sleep_L119  : Nat → Int32 → Int32 → Int32 → Int32 → Int32 → Int64 → Int64 → Int32 → ST → Option (Int64 × ST)
  | 0, _, _, _, _, _, _, _, _, _ => none
  | n + 1, v1, v2, v3, v4, v5, v7, v9, v11, σ => if (1 <<< (v3 &&& 31)) ≤ v11 then if v5 = 0 then T_X3_sleep_j235 v7 v9 v7 σ else T_X3_sleep_j235 v7 v9 v9 σ else cV (T_X3_thinks σ) (fun σ2 => T_X3_sleep_L137 (fun v1 v2 v3 v4 v5 v7 v9 v11 s => T_X3_sleep_L119 n v1 v2 v3 v4 v5 v7 v9 v11 s) FU v1 v2 v3 v4 v5 v7 v9 v11 1 0 σ2)
def T_X3_sleep_L96  : Nat → Int32 → Int32 → Int32 → Int32 → Int32 → Int64 → Int64 → Int32 → ST → Option (Int64 × ST)
  | 0, _, _, _, _, _, _, _, _, _ => none
  | n + 1, v1, v2, v3, v4, v5, v7, v9, v11, σ => if v3 ≤ v11 then T_X3_sleep_L119 FU v1 v2 v3 v4 v5 v7 v9 0 σ else vL (v9 * v4.toInt64) (fun x1 => vl (v11 + 1) (fun x2 => T_X3_sleep_L96 n v1 v2 v3 v4 v5 v7 x1 x2 σ))
def T_X3_sleep_j68  (v1 : Int32) (v2 : Int32) (v3 : Int32) (v4 : Int32) (v5 : Int32) (s0 : Int32) (σ : ST) : Option (Int64 × ST) := if s0 = 0 then pf σ 13 30 v1 (fun σ1 => T_X3_sleep_L96 FU v1 v2 v3 v4 v5 0 1 0 σ1) else cJ (T_X3_lowest s0 σ) (fun x2 σ3 => some (x2, σ3))
def T_X3_sleep_j15  (v1 : Int32) (v2 : Int32) (v3 : Int32) (v4 : Int32) (v5 : Int32) (σ : ST) : Option (Int64 × ST) := T_X3_sleep_j68 v1 v2 v3 v4 v5 ((-1)) σ
def T_X3_sleep_j29  (v1 : Int32) (v2 : Int32) (v3 : Int32) (v4 : Int32) (v5 : Int32) (σ : ST) : Option (Int64 × ST) := T_X3_sleep_j68 v1 v2 v3 v4 v5 ((-4)) σ
def T_X3_sleep_j47  (v1 : Int32) (v2 : Int32) (v3 : Int32) (v4 : Int32) (v5 : Int32) (σ : ST) : Option (Int64 × ST) := T_X3_sleep_j68 v1 v2 v3 v4 v5 ((-6)) σ
def T_X3_sleep (a0 : Int32) (a1 : Int32) (a2 : Int32) (a3 : Int32) (a4 : Int32) (σ : ST) : Option (Int64 × ST) := cV (T_X3_isBearer σ a0) (fun x1 => if x1 = 0 then T_X3_sleep_j15 a0 a1 a2 a3 a4 σ else cV (T_X3_isPlace σ a1) (fun x3 => if x3 = 0 then T_X3_sleep_j15 a0 a1 a2 a3 a4 σ else if a2 < 0 then T_X3_sleep_j29 a0 a1 a2 a3 a4 σ else if 2 ≤ a3 then if 8 < a2 then T_X3_sleep_j47 a0 a1 a2 a3 a4 σ else if a3 ≤ 20 then cV (T_X3_isIn σ a4 0 1) (fun x5 => if x5 = 0 then T_X3_sleep_j68 a0 a1 a2 a3 a4 ((-2)) σ else T_X3_sleep_j68 a0 a1 a2 a3 a4 0 σ) else T_X3_sleep_j47 a0 a1 a2 a3 a4 σ else T_X3_sleep_j29 a0 a1 a2 a3 a4 σ))
def T_X3_ledSwapped_j80  (v3 : Int32) (σ : ST) : Option (Int32 × ST) := cI (T_X3_allLed v3 σ) (fun x1 σ2 => cV (T_X3_passesAll 1 0 σ2) (fun σ4 => some (x1, σ4)))
def T_X3_ledSwapped_j57  (v2 : Int32) (v3 : Int32) (σ : ST) : Option (Int32 × ST) := ld σ 13 9 5 v2 (fun x1 => if 9 ≤ x1 then T_X3_ledSwapped_j80 v3 σ else ld σ 13 9 5 v2 (fun x2 => sd σ 13 5 6 x2 0 (fun σ3 => T_X3_ledSwapped_j80 v3 σ3)))
def T_X3_ledSwapped (a0 : Int32) (a1 : Int32) (a2 : Int32) (σ : ST) : Option (Int32 × ST) := cV (T_X3_passesAll 1 1 σ) (fun σ2 => ld σ2 13 9 5 a0 (fun x3 => ld σ2 13 9 5 a1 (fun x4 => sd σ2 13 9 5 a0 x4 (fun σ5 => sd σ5 13 9 5 a1 x3 (fun σ6 => ld σ6 13 9 5 a0 (fun x7 => if 9 ≤ x7 then T_X3_ledSwapped_j57 a1 a2 σ6 else ld σ6 13 9 5 a0 (fun x8 => sd σ6 13 5 6 x8 0 (fun σ9 => T_X3_ledSwapped_j57 a1 a2 σ9))))))))
def T_X3_swap_L43 (K28 : Int32 → Int32 → Int32 → Int32 → ST → Option (Int32 × ST)) : Nat → Int32 → Int32 → Int32 → Int32 → Int32 → ST → Option (Int32 × ST)
  | 0, _, _, _, _, _, _ => none
  | n + 1, v1, v3, v4, v5, v6, σ => gf σ 13 12 (fun x1 => if x1 ≤ v6 then vl (v5 + 1) (fun x2 => K28 v1 v3 v4 x2 σ) else cI (T_X3_ledSwapped v5 v6 v1 σ) (fun x3 σ4 => if x3 < v4 then vl ((10 * v5) + v6) (fun x5 => vl (v6 + 1) (fun x6 => T_X3_swap_L43 K28 n v1 x5 x3 v5 x6 σ4)) else vl (v6 + 1) (fun x7 => T_X3_swap_L43 K28 n v1 v3 v4 v5 x7 σ4)))
def T_X3_swap_L28  : Nat → Int32 → Int32 → Int32 → Int32 → ST → Option (Int32 × ST)
  | 0, _, _, _, _, _ => none
  | n + 1, v1, v3, v4, v5, σ => gf σ 13 12 (fun x1 => if x1 ≤ v5 then some (v3, σ) else vl (v5 + 1) (fun x2 => T_X3_swap_L43 (fun v1 v3 v4 v5 s => T_X3_swap_L28 n v1 v3 v4 v5 s) FU v1 v3 v4 v5 x2 σ))
def T_X3_swap (a0 : Int32) (σ : ST) : Option (Int32 × ST) := cV (T_X3_notHours σ a0) (fun x1 => if x1 = 0 then cI (T_X3_allLed a0 σ) (fun x3 σ4 => T_X3_swap_L28 FU a0 ((-9)) x3 0 σ4) else cI (T_X3_no x1 σ) (fun x5 σ6 => some (x5, σ6)))
def T_X3_heir_L73  : Nat → Int32 → Int32 → Int32 → ST → Option (Int32 × ST)
  | 0, _, _, _, _ => none
  | n + 1, v1, v2, v3, σ => gf σ 13 11 (fun x1 => if x1 ≤ v3 then some (v2, σ) else if v1 = 1 then if v2 < 0 then vl (v3 + 1) (fun x2 => T_X3_heir_L73 n v1 v3 x2 σ) else cV (T_X3_pullOf σ v3) (fun x3 => cV (T_X3_pullOf σ v2) (fun x5 => if x3 ≤ x5 then vl (v3 + 1) (fun x7 => T_X3_heir_L73 n v1 v2 x7 σ) else vl (v3 + 1) (fun x8 => T_X3_heir_L73 n v1 v3 x8 σ))) else some (v2, σ))
def T_X3_heir_L21  : Nat → Int32 → Int32 → Int32 → ST → Option (Int32 × ST)
  | 0, _, _, _, _ => none
  | n + 1, v1, v2, v3, σ => gf σ 13 12 (fun x1 => if x1 ≤ v3 then T_X3_heir_L73 FU v1 v2 0 σ else if v1 = 0 then ld σ 13 9 5 v3 (fun x2 => if x2 = 9 then if v2 < 0 then vl (v3 + 1) (fun x4 => T_X3_heir_L21 n v1 v3 x4 σ) else ld σ 13 6 5 v3 (fun x5 => ld σ 13 6 5 v2 (fun x6 => if x5 ≤ x6 then vl (v3 + 1) (fun x7 => T_X3_heir_L21 n v1 v2 x7 σ) else vl (v3 + 1) (fun x8 => T_X3_heir_L21 n v1 v3 x8 σ))) else vl (v3 + 1) (fun x3 => T_X3_heir_L21 n v1 v2 x3 σ)) else T_X3_heir_L73 FU v1 v2 0 σ)
def T_X3_heir (a0 : Int32) (σ : ST) : Option (Int32 × ST) := cV (T_X3_isIn σ a0 0 1) (fun x1 => if x1 = 0 then cI (T_X3_no ((-2)) σ) (fun x3 σ4 => some (x3, σ4)) else T_X3_heir_L21 FU a0 ((-9)) 0 σ)
def T_X3_apart (σ : ST) (a0 : Int32) (a1 : Int32) : Option Int32 := ld σ 13 8 5 a1 (fun x1 => ld σ 13 8 5 a0 (fun x2 => vl (((x1 - x2) + 10) - ((x1 - x2) + 10) / 10 * 10) (fun x3 => if x3 ≤ 5 then some x3 else some (10 - x3))))
def T_X3_far_j16  (σ : ST) : Option (Int32 × ST) := cI (T_X3_no ((-1)) σ) (fun x1 σ2 => some (x1, σ2))
def T_X3_far (a0 : Int32) (a1 : Int32) (σ : ST) : Option (Int32 × ST) := cV (T_X3_isBearer σ a0) (fun x1 => if x1 = 0 then T_X3_far_j16 σ else cV (T_X3_isBearer σ a1) (fun x3 => if x3 = 0 then T_X3_far_j16 σ else cV (T_X3_apart σ a0 a1) (fun x5 => some (x5, σ))))
def T_X3_allBreath_L4 (σ : ST) : Nat → Int32 → Int32 → Option Int32
  | 0, _, _ => none
  | n + 1, v1, v2 => gf σ 13 12 (fun x1 => if x1 ≤ v2 then some v1 else ld σ 13 10 5 v2 (fun x2 => vl (v1 + x2) (fun x3 => vl (v2 + 1) (fun x4 => T_X3_allBreath_L4 σ n x3 x4))))
def T_X3_allBreath (σ : ST) : Option Int32 := T_X3_allBreath_L4 σ FU 0 0
def T_X3_tired (a0 : Int32) (σ : ST) : Option (Int32 × ST) := cV (T_X3_notHours σ a0) (fun x1 => if x1 = 0 then cV (T_X3_thinks σ) (fun σ4 => cV (T_X3_goes a0 σ4) (fun σ6 => cV (T_X3_allBreath σ6) (fun x7 => cV (T_X3_forgets σ6) (fun σ10 => some (x7, σ10))))) else cI (T_X3_no x1 σ) (fun x11 σ12 => some (x11, σ12)))
def T_X3_visits_L47  : Nat → Int32 → Int32 → Int32 → Int32 → Int32 → ST → Option (Int32 × ST)
  | 0, _, _, _, _, _, _ => none
  | n + 1, v1, v2, v3, v5, v6, σ => if v3 ≤ v6 then cV (T_X3_forgets σ) (fun σ2 => some (v5, σ2)) else cV (T_X3_goesHour 0 σ) (fun σ4 => ld σ4 13 8 5 v1 (fun x5 => if x5 = v2 then vl (v5 + 1) (fun x8 => vl (v6 + 1) (fun x9 => T_X3_visits_L47 n v1 v2 v3 x8 x9 σ4)) else vl (v5 + 0) (fun x6 => vl (v6 + 1) (fun x7 => T_X3_visits_L47 n v1 v2 v3 x6 x7 σ4))))
def T_X3_visits_j23  (v1 : Int32) (v2 : Int32) (v3 : Int32) (s0 : Int32) (σ : ST) : Option (Int32 × ST) := if s0 = 0 then cV (T_X3_thinks σ) (fun σ2 => T_X3_visits_L47 FU v1 v2 v3 0 0 σ2) else cI (T_X3_no s0 σ) (fun x3 σ4 => some (x3, σ4))
def T_X3_visits_j15  (v1 : Int32) (v2 : Int32) (v3 : Int32) (σ : ST) : Option (Int32 × ST) := T_X3_visits_j23 v1 v2 v3 ((-1)) σ
def T_X3_visits (a0 : Int32) (a1 : Int32) (a2 : Int32) (σ : ST) : Option (Int32 × ST) := cV (T_X3_isBearer σ a0) (fun x1 => if x1 = 0 then T_X3_visits_j15 a0 a1 a2 σ else cV (T_X3_isPlace σ a1) (fun x3 => if x3 = 0 then T_X3_visits_j15 a0 a1 a2 σ else cV (T_X3_notHours σ a2) (fun x5 => T_X3_visits_j23 a0 a1 a2 x5 σ)))
def T_X3_together_L41  : Nat → Int32 → Int32 → Int32 → Int32 → Int32 → ST → Option (Int32 × ST)
  | 0, _, _, _, _, _, _ => none
  | n + 1, v1, v2, v3, v5, v6, σ => if v3 ≤ v6 then cV (T_X3_forgets σ) (fun σ2 => some (v5, σ2)) else cV (T_X3_goesHour 0 σ) (fun σ4 => ld σ4 13 8 5 v1 (fun x5 => ld σ4 13 8 5 v2 (fun x6 => if x5 = x6 then vl (v5 + 1) (fun x9 => vl (v6 + 1) (fun x10 => T_X3_together_L41 n v1 v2 v3 x9 x10 σ4)) else vl (v5 + 0) (fun x7 => vl (v6 + 1) (fun x8 => T_X3_together_L41 n v1 v2 v3 x7 x8 σ4)))))
def T_X3_together_j17  (v1 : Int32) (v2 : Int32) (v3 : Int32) (s0 : Int32) (σ : ST) : Option (Int32 × ST) := if s0 = 0 then cV (T_X3_thinks σ) (fun σ2 => T_X3_together_L41 FU v1 v2 v3 0 0 σ2) else cI (T_X3_no s0 σ) (fun x3 σ4 => some (x3, σ4))
def T_X3_together (a0 : Int32) (a1 : Int32) (a2 : Int32) (σ : ST) : Option (Int32 × ST) := cV (T_X3_areTwo σ a0 a1) (fun x1 => if x1 = 0 then T_X3_together_j17 a0 a1 a2 ((-1)) σ else cV (T_X3_notHours σ a2) (fun x3 => T_X3_together_j17 a0 a1 a2 x3 σ))
def T_X3_rests_j16  (v1 : Int32) (v2 : Int32) (s0 : Int32) (σ : ST) : Option (Int32 × ST) := if s0 = 0 then cI (T_X3_snapsIn v2 σ) (fun x1 σ2 => ld σ2 13 28 5 v1 (fun x3 => some (x3, σ2))) else cI (T_X3_no s0 σ) (fun x4 σ5 => some (x4, σ5))
def T_X3_rests (a0 : Int32) (a1 : Int32) (σ : ST) : Option (Int32 × ST) := cV (T_X3_isBearer σ a0) (fun x1 => if x1 = 0 then T_X3_rests_j16 a0 a1 ((-1)) σ else cV (T_X3_notHours σ a1) (fun x3 => T_X3_rests_j16 a0 a1 x3 σ))
def T_X3_firstSnap_j48  (v1 : Int32) (σ : ST) : Option (Int32 × ST) := cV (T_X3_forgets σ) (fun σ2 => some (v1, σ2))
def T_X3_firstSnap_L13  : Nat → Int32 → Int32 → ST → Option (Int32 × ST)
  | 0, _, _, _ => none
  | n + 1, v1, v2, σ => if 60 < v2 then T_X3_firstSnap_j48 v1 σ else if 0 ≤ v1 then T_X3_firstSnap_j48 v1 σ else cV (T_X3_goesHour 0 σ) (fun σ2 => gf σ2 13 29 (fun x3 => if x3 ≤ 0 then vl (v2 + 1) (fun x4 => T_X3_firstSnap_L13 n ((-9)) x4 σ2) else vl (v2 + 1) (fun x5 => T_X3_firstSnap_L13 n v2 x5 σ2)))
def T_X3_firstSnap (σ : ST) : Option (Int32 × ST) := cV (T_X3_thinks σ) (fun σ2 => cV (T_X3_counts σ2) (fun σ4 => T_X3_firstSnap_L13 FU ((-9)) 1 σ4))
def T_X3_busy_L71 (K62 : Int32 → Int32 → Int32 → ST → Option (Int32 × ST)) : Nat → Int32 → Int32 → Int32 → Int32 → ST → Option (Int32 × ST)
  | 0, _, _, _, _, _ => none
  | n + 1, v1, v2, v4, v5, σ => gf σ 13 12 (fun x1 => if x1 ≤ v5 then cV (T_X3_goesHour 0 σ) (fun σ3 => vl (v4 + 1) (fun x4 => K62 v1 v2 x4 σ3)) else ld σ 13 8 5 v5 (fun x5 => ld σ 13 36 10 x5 (fun x6 => sd σ 13 36 10 x5 (x6 + 1) (fun σ7 => vl (v5 + 1) (fun x8 => T_X3_busy_L71 K62 n v1 v2 v4 x8 σ7)))))
def T_X3_busy_L123  : Nat → Int32 → Int32 → Int32 → ST → Option (Int32 × ST)
  | 0, _, _, _, _ => none
  | n + 1, v2, v4, v5, σ => if 10 ≤ v5 then if v2 = 0 then some (v4, σ) else ld σ 13 36 10 v4 (fun x1 => some (x1, σ)) else ld σ 13 36 10 v5 (fun x2 => ld σ 13 36 10 v4 (fun x3 => if x2 ≤ x3 then vl (v5 + 1) (fun x4 => T_X3_busy_L123 n v2 v4 x4 σ) else vl (v5 + 1) (fun x5 => T_X3_busy_L123 n v2 v5 x5 σ)))
def T_X3_busy_L62  : Nat → Int32 → Int32 → Int32 → ST → Option (Int32 × ST)
  | 0, _, _, _, _ => none
  | n + 1, v1, v2, v4, σ => if v1 < v4 then cV (T_X3_forgets σ) (fun σ2 => T_X3_busy_L123 FU v2 0 1 σ2) else T_X3_busy_L71 (fun v1 v2 v4 s => T_X3_busy_L62 n v1 v2 v4 s) FU v1 v2 v4 0 σ
def T_X3_busy_L34  : Nat → Int32 → Int32 → Int32 → ST → Option (Int32 × ST)
  | 0, _, _, _, _ => none
  | n + 1, v1, v2, v4, σ => if 10 ≤ v4 then cV (T_X3_thinks σ) (fun σ2 => T_X3_busy_L62 FU v1 v2 0 σ2) else sd σ 13 36 10 v4 0 (fun σ3 => vl (v4 + 1) (fun x4 => T_X3_busy_L34 n v1 v2 x4 σ3))
def T_X3_busy_j21  (v1 : Int32) (v2 : Int32) (v3 : Int32) (σ : ST) : Option (Int32 × ST) := if v3 = 0 then T_X3_busy_L34 FU v1 v2 0 σ else cI (T_X3_no v3 σ) (fun x1 σ2 => some (x1, σ2))
def T_X3_busy (a0 : Int32) (a1 : Int32) (σ : ST) : Option (Int32 × ST) := cV (T_X3_notHours σ a0) (fun x1 => if x1 = 0 then cV (T_X3_isIn σ a1 0 1) (fun x3 => if x3 = 0 then T_X3_busy_j21 a0 a1 ((-2)) σ else T_X3_busy_j21 a0 a1 x1 σ) else T_X3_busy_j21 a0 a1 x1 σ)
def T_X3_tamed_L43  : Nat → Int32 → Int32 → Int32 → Int32 → Int32 → ST → Option (Int32 × ST)
  | 0, _, _, _, _, _, _ => none
  | n + 1, v1, v2, v3, v4, v5, σ => if 10 ≤ v5 then sd σ 13 2 6 v1 v3 (fun σ1 => some (v4, σ1)) else sd σ 13 2 6 v1 v5 (fun σ2 => cV (T_X3_isLed σ2 v2) (fun x3 => if x3 = 0 then vl (v5 + 1) (fun x5 => T_X3_tamed_L43 n v1 v2 v3 v5 x5 σ2) else vl (v5 + 1) (fun x6 => T_X3_tamed_L43 n v1 v2 v3 v4 x6 σ2)))
def T_X3_tamed (a0 : Int32) (σ : ST) : Option (Int32 × ST) := cV (T_X3_isBag σ a0) (fun x1 => if x1 = 0 then cI (T_X3_no ((-1)) σ) (fun x6 σ7 => some (x6, σ7)) else cV (T_X3_whoHas σ a0) (fun x3 => if x3 = 9 then some ((-9), σ) else ld σ 13 2 6 a0 (fun x5 => T_X3_tamed_L43 FU a0 x3 x5 ((-9)) 0 σ)))
def T_X3_unled_L40 (K23 : Int32 → ST → Option (Int32 × ST)) (K34 : Int32 → Int32 → ST → Option (Int32 × ST)) : Nat → Int32 → Int32 → Int32 → ST → Option (Int32 × ST)
  | 0, _, _, _, _ => none
  | n + 1, v1, v2, v3, σ => gf σ 13 11 (fun x1 => if x1 ≤ v3 then vl (v2 + (-1)) (fun x2 => K34 v1 x2 σ) else if ((v2 >>> (v3 &&& 31)) &&& 1) = 0 then vl (v3 + 1) (fun x3 => T_X3_unled_L40 K23 K34 n v1 v2 x3 σ) else cV (T_X3_plainPull σ v3) (fun x4 => ld σ 13 6 5 v1 (fun x6 => if x4 ≤ x6 then ld σ 13 37 64 (v2 &&& ((1 <<< (v3 &&& 31)) ^^^ ((-1)))) (fun x7 => vl (x7 + 1) (fun x8 => ld σ 13 37 64 v2 (fun x9 => if x8 ≤ x9 then ld σ 13 37 64 v2 (fun x10 => sd σ 13 37 64 v2 x10 (fun σ11 => vl (v3 + 1) (fun x12 => T_X3_unled_L40 K23 K34 n v1 v2 x12 σ11))) else sd σ 13 37 64 v2 x8 (fun σ13 => vl (v3 + 1) (fun x14 => T_X3_unled_L40 K23 K34 n v1 v2 x14 σ13))))) else vl (v3 + 1) (fun x15 => T_X3_unled_L40 K23 K34 n v1 v2 x15 σ))))
def T_X3_unled_L34 (K23 : Int32 → ST → Option (Int32 × ST)) : Nat → Int32 → Int32 → ST → Option (Int32 × ST)
  | 0, _, _, _ => none
  | n + 1, v1, v2, σ => if v2 < 0 then vl (v1 + 1) (fun x1 => K23 x1 σ) else T_X3_unled_L40 K23 (fun v1 v2 s => T_X3_unled_L34 K23 n v1 v2 s) FU v1 v2 0 σ
def T_X3_unled_L23  : Nat → Int32 → ST → Option (Int32 × ST)
  | 0, _, _ => none
  | n + 1, v1, σ => gf σ 13 12 (fun x1 => if x1 ≤ v1 then ld σ 13 37 64 63 (fun x2 => some (x2, σ)) else T_X3_unled_L34 (fun v1 s => T_X3_unled_L23 n v1 s) FU v1 63 σ)
def T_X3_unled_L2  : Nat → Int32 → ST → Option (Int32 × ST)
  | 0, _, _ => none
  | n + 1, v1, σ => if 64 ≤ v1 then T_X3_unled_L23 FU 0 σ else sd σ 13 37 64 v1 0 (fun σ1 => vl (v1 + 1) (fun x2 => T_X3_unled_L2 n x2 σ1))
def T_X3_unled (σ : ST) : Option (Int32 × ST) := T_X3_unled_L2 FU 0 σ
def T_X3_areAtOne_L2 (σ : ST) : Nat → Int32 → Option Int32
  | 0, _ => none
  | n + 1, v1 => gf σ 13 12 (fun x1 => if x1 ≤ v1 then some 1 else ld σ 13 8 5 v1 (fun x2 => ld σ 13 8 5 0 (fun x3 => if x2 = x3 then vl (v1 + 1) (fun x4 => T_X3_areAtOne_L2 σ n x4) else some 0)))
def T_X3_areAtOne (σ : ST) : Option Int32 := T_X3_areAtOne_L2 σ FU 1
def T_X3_gathering_j32 (K9 : Int32 → Int32 → ST → Option (Int32 × ST)) (v2 : Int32) (s0 : Int32) (σ : ST) : Option (Int32 × ST) := cV (T_X3_goesHour 0 σ) (fun σ2 => vl (v2 + 1) (fun x3 => K9 s0 x3 σ2))
def T_X3_gathering_j44  (v1 : Int32) (σ : ST) : Option (Int32 × ST) := cV (T_X3_forgets σ) (fun σ2 => some (v1, σ2))
def T_X3_gathering_L9  : Nat → Int32 → Int32 → ST → Option (Int32 × ST)
  | 0, _, _, _ => none
  | n + 1, v1, v2, σ => if 60 < v2 then T_X3_gathering_j44 v1 σ else if 0 ≤ v1 then T_X3_gathering_j44 v1 σ else cV (T_X3_areAtOne σ) (fun x1 => if x1 = 0 then T_X3_gathering_j32 (fun v1 v2 s => T_X3_gathering_L9 n v1 v2 s) v2 ((-9)) σ else T_X3_gathering_j32 (fun v1 v2 s => T_X3_gathering_L9 n v1 v2 s) v2 v2 σ)
def T_X3_gathering (σ : ST) : Option (Int32 × ST) := cV (T_X3_thinks σ) (fun σ2 => T_X3_gathering_L9 FU ((-9)) 0 σ2)
def T_X3_bestHabit_j15  (σ : ST) : Option (Int32 × ST) := cI (T_X3_no ((-1)) σ) (fun x1 σ2 => some (x1, σ2))
def T_X3_bestHabit_j100 (K55 : Int32 → Int32 → Int32 → Int32 → Int32 → Int32 → Int32 → ST → Option (Int32 × ST)) (v1 : Int32) (v2 : Int32) (v3 : Int32) (v4 : Int32) (v7 : Int32) (v8 : Int32) (σ : ST) : Option (Int32 × ST) := vl (v7 + 1) (fun x1 => K55 v1 v2 v3 v4 v7 v8 x1 σ)
def T_X3_bestHabit_L55  : Nat → Int32 → Int32 → Int32 → Int32 → Int32 → Int32 → Int32 → ST → Option (Int32 × ST)
  | 0, _, _, _, _, _, _, _, _ => none
  | n + 1, v1, v2, v3, v4, v5, v6, v7, σ => if 10 ≤ v7 then sd σ 13 3 6 v1 v4 (fun σ1 => some (v5, σ1)) else sd σ 13 3 6 v1 v7 (fun σ2 => cI (T_X3_comesTo v3 v2 60 σ2) (fun x3 σ4 => if x3 < 0 then vl (v7 + 1) (fun x5 => T_X3_bestHabit_L55 n v1 v2 v3 v4 v5 v6 x5 σ4) else if v5 < 0 then T_X3_bestHabit_j100 (fun v1 v2 v3 v4 v5 v6 v7 s => T_X3_bestHabit_L55 n v1 v2 v3 v4 v5 v6 v7 s) v1 v2 v3 v4 v7 x3 σ4 else if x3 < v6 then T_X3_bestHabit_j100 (fun v1 v2 v3 v4 v5 v6 v7 s => T_X3_bestHabit_L55 n v1 v2 v3 v4 v5 v6 v7 s) v1 v2 v3 v4 v7 x3 σ4 else vl (v7 + 1) (fun x6 => T_X3_bestHabit_L55 n v1 v2 v3 v4 v5 v6 x6 σ4)))
def T_X3_bestHabit (a0 : Int32) (a1 : Int32) (σ : ST) : Option (Int32 × ST) := cV (T_X3_isBag σ a0) (fun x1 => if x1 = 0 then T_X3_bestHabit_j15 σ else cV (T_X3_isPlace σ a1) (fun x3 => if x3 = 0 then T_X3_bestHabit_j15 σ else cV (T_X3_whoHas σ a0) (fun x5 => if x5 = 9 then some ((-9), σ) else ld σ 13 3 6 a0 (fun x7 => T_X3_bestHabit_L55 FU a0 a1 x5 x7 ((-9)) ((-9)) 0 σ))))
def T_X3_farthest_L66 (K51 : Int32 → Int32 → Int32 → Int32 → ST → Option (Int32 × ST)) : Nat → Int32 → Int32 → Int32 → Int32 → Int32 → ST → Option (Int32 × ST)
  | 0, _, _, _, _, _, _ => none
  | n + 1, v2, v4, v5, v6, v7, σ => gf σ 13 12 (fun x1 => if x1 ≤ v7 then vl (v6 + 1) (fun x2 => K51 v2 v4 v5 x2 σ) else cV (T_X3_apart σ v6 v7) (fun x3 => if v5 < x3 then vl ((10 * v6) + v7) (fun x5 => cV (T_X3_apart σ v6 v7) (fun x6 => vl (v7 + 1) (fun x8 => T_X3_farthest_L66 K51 n v2 x5 x6 v6 x8 σ))) else vl (v7 + 1) (fun x9 => T_X3_farthest_L66 K51 n v2 v4 v5 v6 x9 σ)))
def T_X3_farthest_L51  : Nat → Int32 → Int32 → Int32 → Int32 → ST → Option (Int32 × ST)
  | 0, _, _, _, _, _ => none
  | n + 1, v2, v4, v5, v6, σ => gf σ 13 12 (fun x1 => if x1 ≤ v6 then cV (T_X3_forgets σ) (fun σ3 => if v2 = 0 then some (v4, σ3) else some (v5, σ3)) else vl (v6 + 1) (fun x4 => T_X3_farthest_L66 (fun v2 v4 v5 v6 s => T_X3_farthest_L51 n v2 v4 v5 v6 s) FU v2 v4 v5 v6 x4 σ))
def T_X3_farthest_j21  (v1 : Int32) (v2 : Int32) (v3 : Int32) (σ : ST) : Option (Int32 × ST) := if v3 = 0 then cV (T_X3_thinks σ) (fun σ2 => cV (T_X3_goes v1 σ2) (fun σ4 => T_X3_farthest_L51 FU v2 ((-9)) ((-9)) 0 σ4)) else cI (T_X3_no v3 σ) (fun x5 σ6 => some (x5, σ6))
def T_X3_farthest (a0 : Int32) (a1 : Int32) (σ : ST) : Option (Int32 × ST) := cV (T_X3_notHours σ a0) (fun x1 => if x1 = 0 then cV (T_X3_isIn σ a1 0 1) (fun x3 => if x3 = 0 then T_X3_farthest_j21 a0 a1 ((-2)) σ else T_X3_farthest_j21 a0 a1 x1 σ) else T_X3_farthest_j21 a0 a1 x1 σ)
def T_X3_row_j24  (v1 : Int32) (v2 : Int32) (σ : ST) : Option (Int32 × ST) := if v2 = 0 then gf σ 13 35 (fun x1 => sd σ 13 34 12 x1 v1 (fun σ2 => gf σ2 13 35 (fun x3 => pf σ2 13 35 (x3 + 1) (fun σ4 => gf σ4 13 35 (fun x5 => some (x5, σ4)))))) else cI (T_X3_no v2 σ) (fun x6 σ7 => some (x6, σ7))
def T_X3_row (a0 : Int32) (σ : ST) : Option (Int32 × ST) := cV (T_X3_bound σ a0 0 99) (fun x1 => if x1 = 0 then gf σ 13 35 (fun x3 => if x3 = 12 then T_X3_row_j24 a0 ((-6)) σ else T_X3_row_j24 a0 x1 σ) else T_X3_row_j24 a0 x1 σ)
def T_X3_judge_j67 (K34 : Int32 → Int32 → Int32 → Int32 → ST → Option (Int32 × ST)) (v1 : Int32) (v2 : Int32) (v4 : Int32) (s0 : Int32) (σ : ST) : Option (Int32 × ST) := cV (T_X3_goesHour 0 σ) (fun σ2 => vl (v4 + 1) (fun x3 => K34 v1 v2 s0 x3 σ2))
def T_X3_judge_j79  (v3 : Int32) (σ : ST) : Option (Int32 × ST) := cV (T_X3_forgets σ) (fun σ2 => some (v3, σ2))
def T_X3_judge_L34  : Nat → Int32 → Int32 → Int32 → Int32 → ST → Option (Int32 × ST)
  | 0, _, _, _, _, _ => none
  | n + 1, v1, v2, v3, v4, σ => if v2 ≤ v4 then T_X3_judge_j79 v3 σ else if 0 ≤ v3 then T_X3_judge_j79 v3 σ else ld σ 13 8 5 v1 (fun x1 => ld σ 13 34 12 v4 (fun x2 => if x1 = x2 then T_X3_judge_j67 (fun v1 v2 v3 v4 s => T_X3_judge_L34 n v1 v2 v3 v4 s) v1 v2 v4 ((-9)) σ else T_X3_judge_j67 (fun v1 v2 v3 v4 s => T_X3_judge_L34 n v1 v2 v3 v4 s) v1 v2 v4 v4 σ))
def T_X3_judge (a0 : Int32) (σ : ST) : Option (Int32 × ST) := cV (T_X3_isBearer σ a0) (fun x1 => if x1 = 0 then cI (T_X3_no ((-1)) σ) (fun x7 σ8 => some (x7, σ8)) else gf σ 13 35 (fun x3 => pf σ 13 35 0 (fun σ4 => cV (T_X3_thinks σ4) (fun σ6 => T_X3_judge_L34 FU a0 x3 ((-9)) 0 σ6))))
def T_X3_clear (σ : ST) : Option (Int32 × ST) := gf σ 13 35 (fun x1 => pf σ 13 35 0 (fun σ2 => some (x1, σ2)))
def T_X3_lots_L124 (K51 : Int32 → Int32 → Int32 → Int32 → Int32 → Int32 → ST → Option (Int32 × ST)) : Nat → Int32 → Int32 → Int32 → Int32 → Int32 → Int32 → Int32 → ST → Option (Int32 × ST)
  | 0, _, _, _, _, _, _, _, _ => none
  | n + 1, v1, v3, v5, v6, v7, v8, v9, σ => gf σ 13 12 (fun x1 => if x1 ≤ v9 then gf σ 13 29 (fun x2 => vl (v7 + x2) (fun x3 => cV (T_X3_forgets σ) (fun σ5 => vl (v8 + 1) (fun x6 => K51 v1 v3 v5 v6 x3 x6 σ5)))) else ld σ 13 27 5 v9 (fun x7 => vl (v6 + x7) (fun x8 => vl (v9 + 1) (fun x9 => T_X3_lots_L124 K51 n v1 v3 v5 x8 v7 v8 x9 σ))))
def T_X3_lots_L68 (K51 : Int32 → Int32 → Int32 → Int32 → Int32 → Int32 → ST → Option (Int32 × ST)) : Nat → Int32 → Int32 → Int32 → Int32 → Int32 → Int32 → Int32 → ST → Option (Int32 × ST)
  | 0, _, _, _, _, _, _, _, _ => none
  | n + 1, v1, v3, v5, v6, v7, v8, v9, σ => gf σ 13 12 (fun x1 => if x1 ≤ v9 then cV (T_X3_goes 24 σ) (fun σ3 => T_X3_lots_L124 K51 FU v1 v3 v5 v6 v7 v8 0 σ3) else vl ((v5 * 1103515245) + 12345) (fun x4 => sd σ 13 7 5 v9 (((x4 &&& 2147483647) / 65536) - ((x4 &&& 2147483647) / 65536) / 10 * 10) (fun σ5 => vl (v9 + 1) (fun x6 => T_X3_lots_L68 K51 n v1 v3 x4 v6 v7 v8 x6 σ5))))
def T_X3_lots_L51  : Nat → Int32 → Int32 → Int32 → Int32 → Int32 → Int32 → ST → Option (Int32 × ST)
  | 0, _, _, _, _, _, _, _ => none
  | n + 1, v1, v3, v5, v6, v7, v8, σ => if v1 ≤ v8 then if v3 = 0 then some (v6, σ) else some (v7, σ) else cV (T_X3_thinks σ) (fun σ2 => cV (T_X3_counts σ2) (fun σ4 => T_X3_lots_L68 (fun v1 v3 v5 v6 v7 v8 s => T_X3_lots_L51 n v1 v3 v5 v6 v7 v8 s) FU v1 v3 v5 v6 v7 v8 0 σ4))
def T_X3_lots_j27  (v1 : Int32) (v2 : Int32) (v3 : Int32) (v4 : Int32) (σ : ST) : Option (Int32 × ST) := if v4 = 0 then T_X3_lots_L51 FU v1 v3 v2 0 0 0 σ else cI (T_X3_no v4 σ) (fun x1 σ2 => some (x1, σ2))
def T_X3_lots (a0 : Int32) (a1 : Int32) (a2 : Int32) (σ : ST) : Option (Int32 × ST) := cV (T_X3_bound σ a0 1 20) (fun x1 => if x1 = 0 then cV (T_X3_isIn σ a2 0 1) (fun x3 => if x3 = 0 then T_X3_lots_j27 a0 a1 a2 ((-2)) σ else T_X3_lots_j27 a0 a1 a2 x1 σ) else T_X3_lots_j27 a0 a1 a2 x1 σ)
def T_X3_count_L102 (σ : ST) : Nat → Int32 → Int32 → Option Int32
  | 0, _, _ => none
  | n + 1, v2, v3 => gf σ 13 12 (fun x1 => if x1 ≤ v3 then some v2 else ld σ 13 9 5 v3 (fun x2 => if 9 ≤ x2 then vl (v2 + 0) (fun x3 => vl (v3 + 1) (fun x4 => T_X3_count_L102 σ n x3 x4)) else vl (v2 + 1) (fun x5 => vl (v3 + 1) (fun x6 => T_X3_count_L102 σ n x5 x6))))
def T_X3_count_L144 (σ : ST) : Nat → Int32 → Int32 → Option Int32
  | 0, _, _ => none
  | n + 1, v2, v3 => gf σ 13 12 (fun x1 => if x1 ≤ v3 then some v2 else cV (T_X3_isLed σ v3) (fun x2 => if x2 = 0 then vl (v2 + 0) (fun x4 => vl (v3 + 1) (fun x5 => T_X3_count_L144 σ n x4 x5)) else vl (v2 + 1) (fun x6 => vl (v3 + 1) (fun x7 => T_X3_count_L144 σ n x6 x7))))
def T_X3_count (σ : ST) (a0 : Int32) : Option Int32 := cV (T_X3_isIn σ a0 11 16) (fun x1 => if x1 = 0 then if a0 = 0 then gf σ 13 11 (fun x11 => some x11) else if a0 = 1 then gf σ 13 12 (fun x10 => some x10) else if a0 = 2 then gf σ 13 13 (fun x9 => some x9) else if a0 = 3 then gf σ 13 14 (fun x8 => some x8) else if a0 = 4 then T_X3_count_L102 σ FU 0 0 else if a0 = 5 then cV (T_X3_allBreath σ) (fun x6 => some x6) else if a0 = 6 then T_X3_count_L144 σ FU 0 0 else if a0 = 7 then gf σ 13 19 (fun x5 => some x5) else if a0 = 8 then gf σ 13 35 (fun x4 => some x4) else if a0 = 9 then gf σ 13 26 (fun x3 => some x3) else some ((-9)) else ld σ 13 0 7 (a0 - 10) (fun x12 => some x12))
