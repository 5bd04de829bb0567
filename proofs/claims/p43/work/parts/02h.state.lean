def rf1 (x0 : Nat) (_n : Nat) : Nat := x0
def rf2 (x0 x1 : Nat) (n : Nat) : Nat := match n with | 0 => x0 | _ => x1
def rf3 (x0 x1 x2 : Nat) (n : Nat) : Nat := match n with | 0 => x0 | 1 => x1 | _ => x2
def rf4 (x0 x1 x2 x3 : Nat) (n : Nat) : Nat := match n with | 0 => x0 | 1 => x1 | 2 => x2 | _ => x3
def rf5 (x0 x1 x2 x3 x4 : Nat) (n : Nat) : Nat := match n with | 0 => x0 | 1 => x1 | 2 => x2 | 3 => x3 | _ => x4
def rf6 (x0 x1 x2 x3 x4 x5 : Nat) (n : Nat) : Nat := match n with | 0 => x0 | 1 => x1 | 2 => x2 | 3 => x3 | 4 => x4 | _ => x5
def rf7 (x0 x1 x2 x3 x4 x5 x6 : Nat) (n : Nat) : Nat := match n with | 0 => x0 | 1 => x1 | 2 => x2 | 3 => x3 | 4 => x4 | 5 => x5 | _ => x6
def rf8 (x0 x1 x2 x3 x4 x5 x6 x7 : Nat) (n : Nat) : Nat := match n with | 0 => x0 | 1 => x1 | 2 => x2 | 3 => x3 | 4 => x4 | 5 => x5 | 6 => x6 | _ => x7
def rf9 (x0 x1 x2 x3 x4 x5 x6 x7 x8 : Nat) (n : Nat) : Nat := match n with | 0 => x0 | 1 => x1 | 2 => x2 | 3 => x3 | 4 => x4 | 5 => x5 | 6 => x6 | 7 => x7 | _ => x8
def rf10 (x0 x1 x2 x3 x4 x5 x6 x7 x8 x9 : Nat) (n : Nat) : Nat := match n with | 0 => x0 | 1 => x1 | 2 => x2 | 3 => x3 | 4 => x4 | 5 => x5 | 6 => x6 | 7 => x7 | 8 => x8 | _ => x9
abbrev HouseV : Type := Int32 × Int32 × Int32 × Int32 × Int32 × Int32 × Int32 × (Nat → Int32) × (Nat → Int32) × (Nat → Int32) × (Nat → Int32) × (Nat → Int32) × (Nat → Int32) × (Nat → Int32) × (Nat → Int32) × (Nat → Int32) × (Nat → Int32) × (Nat → Int32) × (Nat → Int32)
def House_rooms (v : HouseV) : Int32 := v.1
def House_doors (v : HouseV) : Int32 := v.2.1
def House_guards (v : HouseV) : Int32 := v.2.2.1
def House_minute (v : HouseV) : Int32 := v.2.2.2.1
def House_openDoors (v : HouseV) : Int32 := v.2.2.2.2.1
def House_walksStamp (v : HouseV) : Int32 := v.2.2.2.2.2.1
def House_phasesStamp (v : HouseV) : Int32 := v.2.2.2.2.2.2.1
def House_doorFirst (v : HouseV) : Nat → Int32 := v.2.2.2.2.2.2.2.1
def House_doorSecond (v : HouseV) : Nat → Int32 := v.2.2.2.2.2.2.2.2.1
def House_joined (v : HouseV) : Nat → Int32 := v.2.2.2.2.2.2.2.2.2.1
def House_limits (v : HouseV) : Nat → Int32 := v.2.2.2.2.2.2.2.2.2.2.1
def House_periods (v : HouseV) : Nat → Int32 := v.2.2.2.2.2.2.2.2.2.2.2.1
def House_phases (v : HouseV) : Nat → Int32 := v.2.2.2.2.2.2.2.2.2.2.2.2.1
def House_walks (v : HouseV) : Nat → Int32 := v.2.2.2.2.2.2.2.2.2.2.2.2.2.1
def House_walked (v : HouseV) : Nat → Int32 := v.2.2.2.2.2.2.2.2.2.2.2.2.2.2.1
def House_sightings (v : HouseV) : Nat → Int32 := v.2.2.2.2.2.2.2.2.2.2.2.2.2.2.2.1
def House_lastSeen (v : HouseV) : Nat → Int32 := v.2.2.2.2.2.2.2.2.2.2.2.2.2.2.2.2.1
def House_runs (v : HouseV) : Nat → Int32 := v.2.2.2.2.2.2.2.2.2.2.2.2.2.2.2.2.2.1
def House_longestRuns (v : HouseV) : Nat → Int32 := v.2.2.2.2.2.2.2.2.2.2.2.2.2.2.2.2.2.2
def House_set_rooms (v : HouseV) (x : Int32) : HouseV := (x, v.2)
def House_set_doors (v : HouseV) (x : Int32) : HouseV := (v.1, x, v.2.2)
def House_set_guards (v : HouseV) (x : Int32) : HouseV := (v.1, v.2.1, x, v.2.2.2)
def House_set_minute (v : HouseV) (x : Int32) : HouseV := (v.1, v.2.1, v.2.2.1, x, v.2.2.2.2)
def House_set_openDoors (v : HouseV) (x : Int32) : HouseV := (v.1, v.2.1, v.2.2.1, v.2.2.2.1, x, v.2.2.2.2.2)
def House_set_walksStamp (v : HouseV) (x : Int32) : HouseV := (v.1, v.2.1, v.2.2.1, v.2.2.2.1, v.2.2.2.2.1, x, v.2.2.2.2.2.2)
def House_set_phasesStamp (v : HouseV) (x : Int32) : HouseV := (v.1, v.2.1, v.2.2.1, v.2.2.2.1, v.2.2.2.2.1, v.2.2.2.2.2.1, x, v.2.2.2.2.2.2.2)
def House_set_doorFirst (v : HouseV) (x : Nat → Int32) : HouseV := (v.1, v.2.1, v.2.2.1, v.2.2.2.1, v.2.2.2.2.1, v.2.2.2.2.2.1, v.2.2.2.2.2.2.1, x, v.2.2.2.2.2.2.2.2)
def House_set_doorSecond (v : HouseV) (x : Nat → Int32) : HouseV := (v.1, v.2.1, v.2.2.1, v.2.2.2.1, v.2.2.2.2.1, v.2.2.2.2.2.1, v.2.2.2.2.2.2.1, v.2.2.2.2.2.2.2.1, x, v.2.2.2.2.2.2.2.2.2)
def House_set_joined (v : HouseV) (x : Nat → Int32) : HouseV := (v.1, v.2.1, v.2.2.1, v.2.2.2.1, v.2.2.2.2.1, v.2.2.2.2.2.1, v.2.2.2.2.2.2.1, v.2.2.2.2.2.2.2.1, v.2.2.2.2.2.2.2.2.1, x, v.2.2.2.2.2.2.2.2.2.2)
def House_set_limits (v : HouseV) (x : Nat → Int32) : HouseV := (v.1, v.2.1, v.2.2.1, v.2.2.2.1, v.2.2.2.2.1, v.2.2.2.2.2.1, v.2.2.2.2.2.2.1, v.2.2.2.2.2.2.2.1, v.2.2.2.2.2.2.2.2.1, v.2.2.2.2.2.2.2.2.2.1, x, v.2.2.2.2.2.2.2.2.2.2.2)
def House_set_periods (v : HouseV) (x : Nat → Int32) : HouseV := (v.1, v.2.1, v.2.2.1, v.2.2.2.1, v.2.2.2.2.1, v.2.2.2.2.2.1, v.2.2.2.2.2.2.1, v.2.2.2.2.2.2.2.1, v.2.2.2.2.2.2.2.2.1, v.2.2.2.2.2.2.2.2.2.1, v.2.2.2.2.2.2.2.2.2.2.1, x, v.2.2.2.2.2.2.2.2.2.2.2.2)
def House_set_phases (v : HouseV) (x : Nat → Int32) : HouseV := (v.1, v.2.1, v.2.2.1, v.2.2.2.1, v.2.2.2.2.1, v.2.2.2.2.2.1, v.2.2.2.2.2.2.1, v.2.2.2.2.2.2.2.1, v.2.2.2.2.2.2.2.2.1, v.2.2.2.2.2.2.2.2.2.1, v.2.2.2.2.2.2.2.2.2.2.1, v.2.2.2.2.2.2.2.2.2.2.2.1, x, v.2.2.2.2.2.2.2.2.2.2.2.2.2)
def House_set_walks (v : HouseV) (x : Nat → Int32) : HouseV := (v.1, v.2.1, v.2.2.1, v.2.2.2.1, v.2.2.2.2.1, v.2.2.2.2.2.1, v.2.2.2.2.2.2.1, v.2.2.2.2.2.2.2.1, v.2.2.2.2.2.2.2.2.1, v.2.2.2.2.2.2.2.2.2.1, v.2.2.2.2.2.2.2.2.2.2.1, v.2.2.2.2.2.2.2.2.2.2.2.1, v.2.2.2.2.2.2.2.2.2.2.2.2.1, x, v.2.2.2.2.2.2.2.2.2.2.2.2.2.2)
def House_set_walked (v : HouseV) (x : Nat → Int32) : HouseV := (v.1, v.2.1, v.2.2.1, v.2.2.2.1, v.2.2.2.2.1, v.2.2.2.2.2.1, v.2.2.2.2.2.2.1, v.2.2.2.2.2.2.2.1, v.2.2.2.2.2.2.2.2.1, v.2.2.2.2.2.2.2.2.2.1, v.2.2.2.2.2.2.2.2.2.2.1, v.2.2.2.2.2.2.2.2.2.2.2.1, v.2.2.2.2.2.2.2.2.2.2.2.2.1, v.2.2.2.2.2.2.2.2.2.2.2.2.2.1, x, v.2.2.2.2.2.2.2.2.2.2.2.2.2.2.2)
def House_set_sightings (v : HouseV) (x : Nat → Int32) : HouseV := (v.1, v.2.1, v.2.2.1, v.2.2.2.1, v.2.2.2.2.1, v.2.2.2.2.2.1, v.2.2.2.2.2.2.1, v.2.2.2.2.2.2.2.1, v.2.2.2.2.2.2.2.2.1, v.2.2.2.2.2.2.2.2.2.1, v.2.2.2.2.2.2.2.2.2.2.1, v.2.2.2.2.2.2.2.2.2.2.2.1, v.2.2.2.2.2.2.2.2.2.2.2.2.1, v.2.2.2.2.2.2.2.2.2.2.2.2.2.1, v.2.2.2.2.2.2.2.2.2.2.2.2.2.2.1, x, v.2.2.2.2.2.2.2.2.2.2.2.2.2.2.2.2)
def House_set_lastSeen (v : HouseV) (x : Nat → Int32) : HouseV := (v.1, v.2.1, v.2.2.1, v.2.2.2.1, v.2.2.2.2.1, v.2.2.2.2.2.1, v.2.2.2.2.2.2.1, v.2.2.2.2.2.2.2.1, v.2.2.2.2.2.2.2.2.1, v.2.2.2.2.2.2.2.2.2.1, v.2.2.2.2.2.2.2.2.2.2.1, v.2.2.2.2.2.2.2.2.2.2.2.1, v.2.2.2.2.2.2.2.2.2.2.2.2.1, v.2.2.2.2.2.2.2.2.2.2.2.2.2.1, v.2.2.2.2.2.2.2.2.2.2.2.2.2.2.1, v.2.2.2.2.2.2.2.2.2.2.2.2.2.2.2.1, x, v.2.2.2.2.2.2.2.2.2.2.2.2.2.2.2.2.2)
def House_set_runs (v : HouseV) (x : Nat → Int32) : HouseV := (v.1, v.2.1, v.2.2.1, v.2.2.2.1, v.2.2.2.2.1, v.2.2.2.2.2.1, v.2.2.2.2.2.2.1, v.2.2.2.2.2.2.2.1, v.2.2.2.2.2.2.2.2.1, v.2.2.2.2.2.2.2.2.2.1, v.2.2.2.2.2.2.2.2.2.2.1, v.2.2.2.2.2.2.2.2.2.2.2.1, v.2.2.2.2.2.2.2.2.2.2.2.2.1, v.2.2.2.2.2.2.2.2.2.2.2.2.2.1, v.2.2.2.2.2.2.2.2.2.2.2.2.2.2.1, v.2.2.2.2.2.2.2.2.2.2.2.2.2.2.2.1, v.2.2.2.2.2.2.2.2.2.2.2.2.2.2.2.2.1, x, v.2.2.2.2.2.2.2.2.2.2.2.2.2.2.2.2.2.2)
def House_set_longestRuns (v : HouseV) (x : Nat → Int32) : HouseV := (v.1, v.2.1, v.2.2.1, v.2.2.2.1, v.2.2.2.2.1, v.2.2.2.2.2.1, v.2.2.2.2.2.2.1, v.2.2.2.2.2.2.2.1, v.2.2.2.2.2.2.2.2.1, v.2.2.2.2.2.2.2.2.2.1, v.2.2.2.2.2.2.2.2.2.2.1, v.2.2.2.2.2.2.2.2.2.2.2.1, v.2.2.2.2.2.2.2.2.2.2.2.2.1, v.2.2.2.2.2.2.2.2.2.2.2.2.2.1, v.2.2.2.2.2.2.2.2.2.2.2.2.2.2.1, v.2.2.2.2.2.2.2.2.2.2.2.2.2.2.2.1, v.2.2.2.2.2.2.2.2.2.2.2.2.2.2.2.2.1, v.2.2.2.2.2.2.2.2.2.2.2.2.2.2.2.2.2.1, x)
def fsHouse (a : Nat → Nat) (v : HouseV) : List Value := [.int (House_rooms v), .int (House_doors v), .int (House_guards v), .int (House_minute v), .int (House_openDoors v), .int (House_walksStamp v), .int (House_phasesStamp v), .ref (a 1), .ref (a 2), .ref (a 3), .ref (a 4), .ref (a 5), .ref (a 6), .ref (a 7), .ref (a 8), .ref (a 9), .ref (a 10), .ref (a 11), .ref (a 12)]
def wHouse (E : Ex) (a : Nat → Nat) (v : HouseV) : va_W := [(a 0, .inr (2, fsHouse a v)), (a 1, .inl (eI E, 20, .inl (House_doorFirst v))), (a 2, .inl (eI E, 20, .inl (House_doorSecond v))), (a 3, .inl (eI E, 12, .inl (House_joined v))), (a 4, .inl (eI E, 12, .inl (House_limits v))), (a 5, .inl (eI E, 4, .inl (House_periods v))), (a 6, .inl (eI E, 4, .inl (House_phases v))), (a 7, .inl (eI E, 40, .inl (House_walks v))), (a 8, .inl (eI E, 4, .inl (House_walked v))), (a 9, .inl (eI E, 12, .inl (House_sightings v))), (a 10, .inl (eI E, 12, .inl (House_lastSeen v))), (a 11, .inl (eI E, 12, .inl (House_runs v))), (a 12, .inl (eI E, 12, .inl (House_longestRuns v)))]
theorem q_House {E : Ex} {a : Nat → Nat} {v : HouseV} : (wHouse E a v)[0]? = some (a 0, .inr (2, fsHouse a v)) := rfl
theorem l_House {a : Nat → Nat} {v : HouseV} : (fsHouse a v).length = 19 := rfl
theorem g_House_rooms {a : Nat → Nat} {v : HouseV} : (fsHouse a v)[0]? = some (.int (House_rooms v)) := rfl
theorem g_House_doors {a : Nat → Nat} {v : HouseV} : (fsHouse a v)[1]? = some (.int (House_doors v)) := rfl
theorem g_House_guards {a : Nat → Nat} {v : HouseV} : (fsHouse a v)[2]? = some (.int (House_guards v)) := rfl
theorem g_House_minute {a : Nat → Nat} {v : HouseV} : (fsHouse a v)[3]? = some (.int (House_minute v)) := rfl
theorem g_House_openDoors {a : Nat → Nat} {v : HouseV} : (fsHouse a v)[4]? = some (.int (House_openDoors v)) := rfl
theorem g_House_walksStamp {a : Nat → Nat} {v : HouseV} : (fsHouse a v)[5]? = some (.int (House_walksStamp v)) := rfl
theorem g_House_phasesStamp {a : Nat → Nat} {v : HouseV} : (fsHouse a v)[6]? = some (.int (House_phasesStamp v)) := rfl
theorem g_House_doorFirst {a : Nat → Nat} {v : HouseV} : (fsHouse a v)[7]? = some (.ref (a 1)) := rfl
theorem g_House_doorSecond {a : Nat → Nat} {v : HouseV} : (fsHouse a v)[8]? = some (.ref (a 2)) := rfl
theorem g_House_joined {a : Nat → Nat} {v : HouseV} : (fsHouse a v)[9]? = some (.ref (a 3)) := rfl
theorem g_House_limits {a : Nat → Nat} {v : HouseV} : (fsHouse a v)[10]? = some (.ref (a 4)) := rfl
theorem g_House_periods {a : Nat → Nat} {v : HouseV} : (fsHouse a v)[11]? = some (.ref (a 5)) := rfl
theorem g_House_phases {a : Nat → Nat} {v : HouseV} : (fsHouse a v)[12]? = some (.ref (a 6)) := rfl
theorem g_House_walks {a : Nat → Nat} {v : HouseV} : (fsHouse a v)[13]? = some (.ref (a 7)) := rfl
theorem g_House_walked {a : Nat → Nat} {v : HouseV} : (fsHouse a v)[14]? = some (.ref (a 8)) := rfl
theorem g_House_sightings {a : Nat → Nat} {v : HouseV} : (fsHouse a v)[15]? = some (.ref (a 9)) := rfl
theorem g_House_lastSeen {a : Nat → Nat} {v : HouseV} : (fsHouse a v)[16]? = some (.ref (a 10)) := rfl
theorem g_House_runs {a : Nat → Nat} {v : HouseV} : (fsHouse a v)[17]? = some (.ref (a 11)) := rfl
theorem g_House_longestRuns {a : Nat → Nat} {v : HouseV} : (fsHouse a v)[18]? = some (.ref (a 12)) := rfl
theorem p_House_rooms {E : Ex} {a : Nat → Nat} {v : HouseV} {x : Int32} : (wHouse E a v).set 0 (a 0, .inr (2, (fsHouse a v).set 0 (.int x))) = wHouse E a (House_set_rooms v x) := rfl
theorem p_House_doors {E : Ex} {a : Nat → Nat} {v : HouseV} {x : Int32} : (wHouse E a v).set 0 (a 0, .inr (2, (fsHouse a v).set 1 (.int x))) = wHouse E a (House_set_doors v x) := rfl
theorem p_House_guards {E : Ex} {a : Nat → Nat} {v : HouseV} {x : Int32} : (wHouse E a v).set 0 (a 0, .inr (2, (fsHouse a v).set 2 (.int x))) = wHouse E a (House_set_guards v x) := rfl
theorem p_House_minute {E : Ex} {a : Nat → Nat} {v : HouseV} {x : Int32} : (wHouse E a v).set 0 (a 0, .inr (2, (fsHouse a v).set 3 (.int x))) = wHouse E a (House_set_minute v x) := rfl
theorem p_House_openDoors {E : Ex} {a : Nat → Nat} {v : HouseV} {x : Int32} : (wHouse E a v).set 0 (a 0, .inr (2, (fsHouse a v).set 4 (.int x))) = wHouse E a (House_set_openDoors v x) := rfl
theorem p_House_walksStamp {E : Ex} {a : Nat → Nat} {v : HouseV} {x : Int32} : (wHouse E a v).set 0 (a 0, .inr (2, (fsHouse a v).set 5 (.int x))) = wHouse E a (House_set_walksStamp v x) := rfl
theorem p_House_phasesStamp {E : Ex} {a : Nat → Nat} {v : HouseV} {x : Int32} : (wHouse E a v).set 0 (a 0, .inr (2, (fsHouse a v).set 6 (.int x))) = wHouse E a (House_set_phasesStamp v x) := rfl
theorem c_House_doorFirst {E : Ex} {a : Nat → Nat} {v : HouseV} : (wHouse E a v)[1]? = some (a 1, .inl (eI E, 20, .inl (House_doorFirst v))) := rfl
theorem s_House_doorFirst {E : Ex} {a : Nat → Nat} {v : HouseV} {x : Nat → Int32} : (wHouse E a v).set 1 (a 1, .inl (eI E, 20, .inl x)) = wHouse E a (House_set_doorFirst v x) := rfl
theorem c_House_doorSecond {E : Ex} {a : Nat → Nat} {v : HouseV} : (wHouse E a v)[2]? = some (a 2, .inl (eI E, 20, .inl (House_doorSecond v))) := rfl
theorem s_House_doorSecond {E : Ex} {a : Nat → Nat} {v : HouseV} {x : Nat → Int32} : (wHouse E a v).set 2 (a 2, .inl (eI E, 20, .inl x)) = wHouse E a (House_set_doorSecond v x) := rfl
theorem c_House_joined {E : Ex} {a : Nat → Nat} {v : HouseV} : (wHouse E a v)[3]? = some (a 3, .inl (eI E, 12, .inl (House_joined v))) := rfl
theorem s_House_joined {E : Ex} {a : Nat → Nat} {v : HouseV} {x : Nat → Int32} : (wHouse E a v).set 3 (a 3, .inl (eI E, 12, .inl x)) = wHouse E a (House_set_joined v x) := rfl
theorem c_House_limits {E : Ex} {a : Nat → Nat} {v : HouseV} : (wHouse E a v)[4]? = some (a 4, .inl (eI E, 12, .inl (House_limits v))) := rfl
theorem s_House_limits {E : Ex} {a : Nat → Nat} {v : HouseV} {x : Nat → Int32} : (wHouse E a v).set 4 (a 4, .inl (eI E, 12, .inl x)) = wHouse E a (House_set_limits v x) := rfl
theorem c_House_periods {E : Ex} {a : Nat → Nat} {v : HouseV} : (wHouse E a v)[5]? = some (a 5, .inl (eI E, 4, .inl (House_periods v))) := rfl
theorem s_House_periods {E : Ex} {a : Nat → Nat} {v : HouseV} {x : Nat → Int32} : (wHouse E a v).set 5 (a 5, .inl (eI E, 4, .inl x)) = wHouse E a (House_set_periods v x) := rfl
theorem c_House_phases {E : Ex} {a : Nat → Nat} {v : HouseV} : (wHouse E a v)[6]? = some (a 6, .inl (eI E, 4, .inl (House_phases v))) := rfl
theorem s_House_phases {E : Ex} {a : Nat → Nat} {v : HouseV} {x : Nat → Int32} : (wHouse E a v).set 6 (a 6, .inl (eI E, 4, .inl x)) = wHouse E a (House_set_phases v x) := rfl
theorem c_House_walks {E : Ex} {a : Nat → Nat} {v : HouseV} : (wHouse E a v)[7]? = some (a 7, .inl (eI E, 40, .inl (House_walks v))) := rfl
theorem s_House_walks {E : Ex} {a : Nat → Nat} {v : HouseV} {x : Nat → Int32} : (wHouse E a v).set 7 (a 7, .inl (eI E, 40, .inl x)) = wHouse E a (House_set_walks v x) := rfl
theorem c_House_walked {E : Ex} {a : Nat → Nat} {v : HouseV} : (wHouse E a v)[8]? = some (a 8, .inl (eI E, 4, .inl (House_walked v))) := rfl
theorem s_House_walked {E : Ex} {a : Nat → Nat} {v : HouseV} {x : Nat → Int32} : (wHouse E a v).set 8 (a 8, .inl (eI E, 4, .inl x)) = wHouse E a (House_set_walked v x) := rfl
theorem c_House_sightings {E : Ex} {a : Nat → Nat} {v : HouseV} : (wHouse E a v)[9]? = some (a 9, .inl (eI E, 12, .inl (House_sightings v))) := rfl
theorem s_House_sightings {E : Ex} {a : Nat → Nat} {v : HouseV} {x : Nat → Int32} : (wHouse E a v).set 9 (a 9, .inl (eI E, 12, .inl x)) = wHouse E a (House_set_sightings v x) := rfl
theorem c_House_lastSeen {E : Ex} {a : Nat → Nat} {v : HouseV} : (wHouse E a v)[10]? = some (a 10, .inl (eI E, 12, .inl (House_lastSeen v))) := rfl
theorem s_House_lastSeen {E : Ex} {a : Nat → Nat} {v : HouseV} {x : Nat → Int32} : (wHouse E a v).set 10 (a 10, .inl (eI E, 12, .inl x)) = wHouse E a (House_set_lastSeen v x) := rfl
theorem c_House_runs {E : Ex} {a : Nat → Nat} {v : HouseV} : (wHouse E a v)[11]? = some (a 11, .inl (eI E, 12, .inl (House_runs v))) := rfl
theorem s_House_runs {E : Ex} {a : Nat → Nat} {v : HouseV} {x : Nat → Int32} : (wHouse E a v).set 11 (a 11, .inl (eI E, 12, .inl x)) = wHouse E a (House_set_runs v x) := rfl
theorem c_House_longestRuns {E : Ex} {a : Nat → Nat} {v : HouseV} : (wHouse E a v)[12]? = some (a 12, .inl (eI E, 12, .inl (House_longestRuns v))) := rfl
theorem s_House_longestRuns {E : Ex} {a : Nat → Nat} {v : HouseV} {x : Nat → Int32} : (wHouse E a v).set 12 (a 12, .inl (eI E, 12, .inl x)) = wHouse E a (House_set_longestRuns v x) := rfl
abbrev SightV : Type := (Nat → Int32) × (Nat → Int32) × (Nat → Int32) × (Nat → Int32) × (Nat → Int32) × (Nat → Int32) × Int32 × Int32
def Sight_seen (v : SightV) : Nat → Int32 := v.1
def Sight_gaps (v : SightV) : Nat → Int32 := v.2.1
def Sight_gapStarts (v : SightV) : Nat → Int32 := v.2.2.1
def Sight_first (v : SightV) : Nat → Int32 := v.2.2.2.1
def Sight_last (v : SightV) : Nat → Int32 := v.2.2.2.2.1
def Sight_steps (v : SightV) : Nat → Int32 := v.2.2.2.2.2.1
def Sight_worst (v : SightV) : Int32 := v.2.2.2.2.2.2.1
def Sight_stamp (v : SightV) : Int32 := v.2.2.2.2.2.2.2
def Sight_set_seen (v : SightV) (x : Nat → Int32) : SightV := (x, v.2)
def Sight_set_gaps (v : SightV) (x : Nat → Int32) : SightV := (v.1, x, v.2.2)
def Sight_set_gapStarts (v : SightV) (x : Nat → Int32) : SightV := (v.1, v.2.1, x, v.2.2.2)
def Sight_set_first (v : SightV) (x : Nat → Int32) : SightV := (v.1, v.2.1, v.2.2.1, x, v.2.2.2.2)
def Sight_set_last (v : SightV) (x : Nat → Int32) : SightV := (v.1, v.2.1, v.2.2.1, v.2.2.2.1, x, v.2.2.2.2.2)
def Sight_set_steps (v : SightV) (x : Nat → Int32) : SightV := (v.1, v.2.1, v.2.2.1, v.2.2.2.1, v.2.2.2.2.1, x, v.2.2.2.2.2.2)
def Sight_set_worst (v : SightV) (x : Int32) : SightV := (v.1, v.2.1, v.2.2.1, v.2.2.2.1, v.2.2.2.2.1, v.2.2.2.2.2.1, x, v.2.2.2.2.2.2.2)
def Sight_set_stamp (v : SightV) (x : Int32) : SightV := (v.1, v.2.1, v.2.2.1, v.2.2.2.1, v.2.2.2.2.1, v.2.2.2.2.2.1, v.2.2.2.2.2.2.1, x)
def fsSight (a : Nat → Nat) (v : SightV) : List Value := [.ref (a 1), .ref (a 2), .ref (a 3), .ref (a 4), .ref (a 5), .ref (a 6), .int (Sight_worst v), .int (Sight_stamp v)]
def wSight (E : Ex) (a : Nat → Nat) (v : SightV) : va_W := [(a 0, .inr (6, fsSight a v)), (a 1, .inl (eI E, 12, .inl (Sight_seen v))), (a 2, .inl (eI E, 12, .inl (Sight_gaps v))), (a 3, .inl (eI E, 12, .inl (Sight_gapStarts v))), (a 4, .inl (eI E, 12, .inl (Sight_first v))), (a 5, .inl (eI E, 12, .inl (Sight_last v))), (a 6, .inl (eI E, 4, .inl (Sight_steps v)))]
theorem q_Sight {E : Ex} {a : Nat → Nat} {v : SightV} : (wSight E a v)[0]? = some (a 0, .inr (6, fsSight a v)) := rfl
theorem l_Sight {a : Nat → Nat} {v : SightV} : (fsSight a v).length = 8 := rfl
theorem g_Sight_seen {a : Nat → Nat} {v : SightV} : (fsSight a v)[0]? = some (.ref (a 1)) := rfl
theorem g_Sight_gaps {a : Nat → Nat} {v : SightV} : (fsSight a v)[1]? = some (.ref (a 2)) := rfl
theorem g_Sight_gapStarts {a : Nat → Nat} {v : SightV} : (fsSight a v)[2]? = some (.ref (a 3)) := rfl
theorem g_Sight_first {a : Nat → Nat} {v : SightV} : (fsSight a v)[3]? = some (.ref (a 4)) := rfl
theorem g_Sight_last {a : Nat → Nat} {v : SightV} : (fsSight a v)[4]? = some (.ref (a 5)) := rfl
theorem g_Sight_steps {a : Nat → Nat} {v : SightV} : (fsSight a v)[5]? = some (.ref (a 6)) := rfl
theorem g_Sight_worst {a : Nat → Nat} {v : SightV} : (fsSight a v)[6]? = some (.int (Sight_worst v)) := rfl
theorem g_Sight_stamp {a : Nat → Nat} {v : SightV} : (fsSight a v)[7]? = some (.int (Sight_stamp v)) := rfl
theorem c_Sight_seen {E : Ex} {a : Nat → Nat} {v : SightV} : (wSight E a v)[1]? = some (a 1, .inl (eI E, 12, .inl (Sight_seen v))) := rfl
theorem s_Sight_seen {E : Ex} {a : Nat → Nat} {v : SightV} {x : Nat → Int32} : (wSight E a v).set 1 (a 1, .inl (eI E, 12, .inl x)) = wSight E a (Sight_set_seen v x) := rfl
theorem c_Sight_gaps {E : Ex} {a : Nat → Nat} {v : SightV} : (wSight E a v)[2]? = some (a 2, .inl (eI E, 12, .inl (Sight_gaps v))) := rfl
theorem s_Sight_gaps {E : Ex} {a : Nat → Nat} {v : SightV} {x : Nat → Int32} : (wSight E a v).set 2 (a 2, .inl (eI E, 12, .inl x)) = wSight E a (Sight_set_gaps v x) := rfl
theorem c_Sight_gapStarts {E : Ex} {a : Nat → Nat} {v : SightV} : (wSight E a v)[3]? = some (a 3, .inl (eI E, 12, .inl (Sight_gapStarts v))) := rfl
theorem s_Sight_gapStarts {E : Ex} {a : Nat → Nat} {v : SightV} {x : Nat → Int32} : (wSight E a v).set 3 (a 3, .inl (eI E, 12, .inl x)) = wSight E a (Sight_set_gapStarts v x) := rfl
theorem c_Sight_first {E : Ex} {a : Nat → Nat} {v : SightV} : (wSight E a v)[4]? = some (a 4, .inl (eI E, 12, .inl (Sight_first v))) := rfl
theorem s_Sight_first {E : Ex} {a : Nat → Nat} {v : SightV} {x : Nat → Int32} : (wSight E a v).set 4 (a 4, .inl (eI E, 12, .inl x)) = wSight E a (Sight_set_first v x) := rfl
theorem c_Sight_last {E : Ex} {a : Nat → Nat} {v : SightV} : (wSight E a v)[5]? = some (a 5, .inl (eI E, 12, .inl (Sight_last v))) := rfl
theorem s_Sight_last {E : Ex} {a : Nat → Nat} {v : SightV} {x : Nat → Int32} : (wSight E a v).set 5 (a 5, .inl (eI E, 12, .inl x)) = wSight E a (Sight_set_last v x) := rfl
theorem c_Sight_steps {E : Ex} {a : Nat → Nat} {v : SightV} : (wSight E a v)[6]? = some (a 6, .inl (eI E, 4, .inl (Sight_steps v))) := rfl
theorem s_Sight_steps {E : Ex} {a : Nat → Nat} {v : SightV} {x : Nat → Int32} : (wSight E a v).set 6 (a 6, .inl (eI E, 4, .inl x)) = wSight E a (Sight_set_steps v x) := rfl
theorem p_Sight_worst {E : Ex} {a : Nat → Nat} {v : SightV} {x : Int32} : (wSight E a v).set 0 (a 0, .inr (6, (fsSight a v).set 6 (.int x))) = wSight E a (Sight_set_worst v x) := rfl
theorem p_Sight_stamp {E : Ex} {a : Nat → Nat} {v : SightV} {x : Int32} : (wSight E a v).set 0 (a 0, .inr (6, (fsSight a v).set 7 (.int x))) = wSight E a (Sight_set_stamp v x) := rfl
abbrev IntrV : Type := (Nat → Int32) × (Nat → Int32)
def Intr_visited (v : IntrV) : Nat → Int32 := v.1
def Intr_barred (v : IntrV) : Nat → Int32 := v.2
def Intr_set_visited (v : IntrV) (x : Nat → Int32) : IntrV := (x, v.2)
def Intr_set_barred (v : IntrV) (x : Nat → Int32) : IntrV := (v.1, x)
def fsIntr (a : Nat → Nat) (v : IntrV) : List Value := [.ref (a 1), .ref (a 2)]
def wIntr (E : Ex) (a : Nat → Nat) (v : IntrV) : va_W := [(a 0, .inr (4, fsIntr a v)), (a 1, .inl (eI E, 2520, .inl (Intr_visited v))), (a 2, .inl (eI E, 12, .inl (Intr_barred v)))]
theorem q_Intr {E : Ex} {a : Nat → Nat} {v : IntrV} : (wIntr E a v)[0]? = some (a 0, .inr (4, fsIntr a v)) := rfl
theorem l_Intr {a : Nat → Nat} {v : IntrV} : (fsIntr a v).length = 2 := rfl
theorem g_Intr_visited {a : Nat → Nat} {v : IntrV} : (fsIntr a v)[0]? = some (.ref (a 1)) := rfl
theorem g_Intr_barred {a : Nat → Nat} {v : IntrV} : (fsIntr a v)[1]? = some (.ref (a 2)) := rfl
theorem c_Intr_visited {E : Ex} {a : Nat → Nat} {v : IntrV} : (wIntr E a v)[1]? = some (a 1, .inl (eI E, 2520, .inl (Intr_visited v))) := rfl
theorem s_Intr_visited {E : Ex} {a : Nat → Nat} {v : IntrV} {x : Nat → Int32} : (wIntr E a v).set 1 (a 1, .inl (eI E, 2520, .inl x)) = wIntr E a (Intr_set_visited v x) := rfl
theorem c_Intr_barred {E : Ex} {a : Nat → Nat} {v : IntrV} : (wIntr E a v)[2]? = some (a 2, .inl (eI E, 12, .inl (Intr_barred v))) := rfl
theorem s_Intr_barred {E : Ex} {a : Nat → Nat} {v : IntrV} {x : Nat → Int32} : (wIntr E a v).set 2 (a 2, .inl (eI E, 12, .inl x)) = wIntr E a (Intr_set_barred v x) := rfl
abbrev ToksV : Type := (Nat → Int32) × Int32 × Int32 × Int32 × Int32 × Int32 × Int32
def Toks_bytes (v : ToksV) : Nat → Int32 := v.1
def Toks_filled (v : ToksV) : Int32 := v.2.1
def Toks_from (v : ToksV) : Int32 := v.2.2.1
def Toks_number (v : ToksV) : Int32 := v.2.2.2.1
def Toks_to (v : ToksV) : Int32 := v.2.2.2.2.1
def Toks_limit (v : ToksV) : Int32 := v.2.2.2.2.2.1
def Toks_kind (v : ToksV) : Int32 := v.2.2.2.2.2.2
def Toks_set_bytes (v : ToksV) (x : Nat → Int32) : ToksV := (x, v.2)
def Toks_set_filled (v : ToksV) (x : Int32) : ToksV := (v.1, x, v.2.2)
def Toks_set_from (v : ToksV) (x : Int32) : ToksV := (v.1, v.2.1, x, v.2.2.2)
def Toks_set_number (v : ToksV) (x : Int32) : ToksV := (v.1, v.2.1, v.2.2.1, x, v.2.2.2.2)
def Toks_set_to (v : ToksV) (x : Int32) : ToksV := (v.1, v.2.1, v.2.2.1, v.2.2.2.1, x, v.2.2.2.2.2)
def Toks_set_limit (v : ToksV) (x : Int32) : ToksV := (v.1, v.2.1, v.2.2.1, v.2.2.2.1, v.2.2.2.2.1, x, v.2.2.2.2.2.2)
def Toks_set_kind (v : ToksV) (x : Int32) : ToksV := (v.1, v.2.1, v.2.2.1, v.2.2.2.1, v.2.2.2.2.1, v.2.2.2.2.2.1, x)
def fsToks (a : Nat → Nat) (v : ToksV) : List Value := [.ref (a 1), .int (Toks_filled v), .int (Toks_from v), .int (Toks_number v), .int (Toks_to v), .int (Toks_limit v), .int (Toks_kind v)]
def wToks (E : Ex) (a : Nat → Nat) (v : ToksV) : va_W := [(a 0, .inr (7, fsToks a v)), (a 1, .inl (eI E, 600, .inl (Toks_bytes v)))]
theorem q_Toks {E : Ex} {a : Nat → Nat} {v : ToksV} : (wToks E a v)[0]? = some (a 0, .inr (7, fsToks a v)) := rfl
theorem l_Toks {a : Nat → Nat} {v : ToksV} : (fsToks a v).length = 7 := rfl
theorem g_Toks_bytes {a : Nat → Nat} {v : ToksV} : (fsToks a v)[0]? = some (.ref (a 1)) := rfl
theorem g_Toks_filled {a : Nat → Nat} {v : ToksV} : (fsToks a v)[1]? = some (.int (Toks_filled v)) := rfl
theorem g_Toks_from {a : Nat → Nat} {v : ToksV} : (fsToks a v)[2]? = some (.int (Toks_from v)) := rfl
theorem g_Toks_number {a : Nat → Nat} {v : ToksV} : (fsToks a v)[3]? = some (.int (Toks_number v)) := rfl
theorem g_Toks_to {a : Nat → Nat} {v : ToksV} : (fsToks a v)[4]? = some (.int (Toks_to v)) := rfl
theorem g_Toks_limit {a : Nat → Nat} {v : ToksV} : (fsToks a v)[5]? = some (.int (Toks_limit v)) := rfl
theorem g_Toks_kind {a : Nat → Nat} {v : ToksV} : (fsToks a v)[6]? = some (.int (Toks_kind v)) := rfl
theorem c_Toks_bytes {E : Ex} {a : Nat → Nat} {v : ToksV} : (wToks E a v)[1]? = some (a 1, .inl (eI E, 600, .inl (Toks_bytes v))) := rfl
theorem s_Toks_bytes {E : Ex} {a : Nat → Nat} {v : ToksV} {x : Nat → Int32} : (wToks E a v).set 1 (a 1, .inl (eI E, 600, .inl x)) = wToks E a (Toks_set_bytes v x) := rfl
theorem p_Toks_filled {E : Ex} {a : Nat → Nat} {v : ToksV} {x : Int32} : (wToks E a v).set 0 (a 0, .inr (7, (fsToks a v).set 1 (.int x))) = wToks E a (Toks_set_filled v x) := rfl
theorem p_Toks_from {E : Ex} {a : Nat → Nat} {v : ToksV} {x : Int32} : (wToks E a v).set 0 (a 0, .inr (7, (fsToks a v).set 2 (.int x))) = wToks E a (Toks_set_from v x) := rfl
theorem p_Toks_number {E : Ex} {a : Nat → Nat} {v : ToksV} {x : Int32} : (wToks E a v).set 0 (a 0, .inr (7, (fsToks a v).set 3 (.int x))) = wToks E a (Toks_set_number v x) := rfl
theorem p_Toks_to {E : Ex} {a : Nat → Nat} {v : ToksV} {x : Int32} : (wToks E a v).set 0 (a 0, .inr (7, (fsToks a v).set 4 (.int x))) = wToks E a (Toks_set_to v x) := rfl
theorem p_Toks_limit {E : Ex} {a : Nat → Nat} {v : ToksV} {x : Int32} : (wToks E a v).set 0 (a 0, .inr (7, (fsToks a v).set 5 (.int x))) = wToks E a (Toks_set_limit v x) := rfl
theorem p_Toks_kind {E : Ex} {a : Nat → Nat} {v : ToksV} {x : Int32} : (wToks E a v).set 0 (a 0, .inr (7, (fsToks a v).set 6 (.int x))) = wToks E a (Toks_set_kind v x) := rfl
abbrev BestV : Type := (Nat → Int32) × Int32 × Int32 × Int32 × (Nat → Int32)
def Best_phases (v : BestV) : Nat → Int32 := v.1
def Best_worst (v : BestV) : Int32 := v.2.1
def Best_crossings (v : BestV) : Int32 := v.2.2.1
def Best_stamp (v : BestV) : Int32 := v.2.2.2.1
def Best_spans (v : BestV) : Nat → Int32 := v.2.2.2.2
def Best_set_phases (v : BestV) (x : Nat → Int32) : BestV := (x, v.2)
def Best_set_worst (v : BestV) (x : Int32) : BestV := (v.1, x, v.2.2)
def Best_set_crossings (v : BestV) (x : Int32) : BestV := (v.1, v.2.1, x, v.2.2.2)
def Best_set_stamp (v : BestV) (x : Int32) : BestV := (v.1, v.2.1, v.2.2.1, x, v.2.2.2.2)
def Best_set_spans (v : BestV) (x : Nat → Int32) : BestV := (v.1, v.2.1, v.2.2.1, v.2.2.2.1, x)
def fsBest (a : Nat → Nat) (b : Nat → Nat) (v : BestV) : List Value := [.ref (a 1), .int (Best_worst v), .int (Best_crossings v), .int (Best_stamp v), .ref (a 2), .ref (b 0), .ref (b 1)]
def wBest (E : Ex) (a : Nat → Nat) (b : Nat → Nat) (v : BestV) : va_W := [(a 0, .inr (0, fsBest a b v)), (a 1, .inl (eI E, 4, .inl (Best_phases v))), (a 2, .inl (eI E, 4, .inl (Best_spans v)))]
theorem q_Best {E : Ex} {a : Nat → Nat} {b : Nat → Nat} {v : BestV} : (wBest E a b v)[0]? = some (a 0, .inr (0, fsBest a b v)) := rfl
theorem l_Best {a : Nat → Nat} {b : Nat → Nat} {v : BestV} : (fsBest a b v).length = 7 := rfl
theorem g_Best_phases {a : Nat → Nat} {b : Nat → Nat} {v : BestV} : (fsBest a b v)[0]? = some (.ref (a 1)) := rfl
theorem g_Best_worst {a : Nat → Nat} {b : Nat → Nat} {v : BestV} : (fsBest a b v)[1]? = some (.int (Best_worst v)) := rfl
theorem g_Best_crossings {a : Nat → Nat} {b : Nat → Nat} {v : BestV} : (fsBest a b v)[2]? = some (.int (Best_crossings v)) := rfl
theorem g_Best_stamp {a : Nat → Nat} {b : Nat → Nat} {v : BestV} : (fsBest a b v)[3]? = some (.int (Best_stamp v)) := rfl
theorem g_Best_spans {a : Nat → Nat} {b : Nat → Nat} {v : BestV} : (fsBest a b v)[4]? = some (.ref (a 2)) := rfl
theorem g_Best_trial {a : Nat → Nat} {b : Nat → Nat} {v : BestV} : (fsBest a b v)[5]? = some (.ref (b 0)) := rfl
theorem g_Best_trialSightings {a : Nat → Nat} {b : Nat → Nat} {v : BestV} : (fsBest a b v)[6]? = some (.ref (b 1)) := rfl
theorem c_Best_phases {E : Ex} {a : Nat → Nat} {b : Nat → Nat} {v : BestV} : (wBest E a b v)[1]? = some (a 1, .inl (eI E, 4, .inl (Best_phases v))) := rfl
theorem s_Best_phases {E : Ex} {a : Nat → Nat} {b : Nat → Nat} {v : BestV} {x : Nat → Int32} : (wBest E a b v).set 1 (a 1, .inl (eI E, 4, .inl x)) = wBest E a b (Best_set_phases v x) := rfl
theorem p_Best_worst {E : Ex} {a : Nat → Nat} {b : Nat → Nat} {v : BestV} {x : Int32} : (wBest E a b v).set 0 (a 0, .inr (0, (fsBest a b v).set 1 (.int x))) = wBest E a b (Best_set_worst v x) := rfl
theorem p_Best_crossings {E : Ex} {a : Nat → Nat} {b : Nat → Nat} {v : BestV} {x : Int32} : (wBest E a b v).set 0 (a 0, .inr (0, (fsBest a b v).set 2 (.int x))) = wBest E a b (Best_set_crossings v x) := rfl
theorem p_Best_stamp {E : Ex} {a : Nat → Nat} {b : Nat → Nat} {v : BestV} {x : Int32} : (wBest E a b v).set 0 (a 0, .inr (0, (fsBest a b v).set 3 (.int x))) = wBest E a b (Best_set_stamp v x) := rfl
theorem c_Best_spans {E : Ex} {a : Nat → Nat} {b : Nat → Nat} {v : BestV} : (wBest E a b v)[2]? = some (a 2, .inl (eI E, 4, .inl (Best_spans v))) := rfl
theorem s_Best_spans {E : Ex} {a : Nat → Nat} {b : Nat → Nat} {v : BestV} {x : Nat → Int32} : (wBest E a b v).set 2 (a 2, .inl (eI E, 4, .inl x)) = wBest E a b (Best_set_spans v x) := rfl
abbrev HReadV : Type := Unit
def fsHRead (a : Nat → Nat) (b : Nat → Nat) : List Value := [.ref (b 0)]
def wHRead (E : Ex) (a : Nat → Nat) (b : Nat → Nat) : va_W := [(a 0, .inr (3, fsHRead a b))]
theorem q_HRead {E : Ex} {a : Nat → Nat} {b : Nat → Nat} : (wHRead E a b)[0]? = some (a 0, .inr (3, fsHRead a b)) := rfl
theorem l_HRead {a : Nat → Nat} {b : Nat → Nat} : (fsHRead a b).length = 1 := rfl
theorem g_HRead_tokens {a : Nat → Nat} {b : Nat → Nat} : (fsHRead a b)[0]? = some (.ref (b 0)) := rfl
abbrev QReadV : Type := Int32 × Int32
def QRead_error (v : QReadV) : Int32 := v.1
def QRead_answer (v : QReadV) : Int32 := v.2
def QRead_set_error (v : QReadV) (x : Int32) : QReadV := (x, v.2)
def QRead_set_answer (v : QReadV) (x : Int32) : QReadV := (v.1, x)
def fsQRead (a : Nat → Nat) (b : Nat → Nat) (v : QReadV) : List Value := [.ref (b 0), .ref (b 1), .ref (b 2), .int (QRead_error v), .int (QRead_answer v)]
def wQRead (E : Ex) (a : Nat → Nat) (b : Nat → Nat) (v : QReadV) : va_W := [(a 0, .inr (5, fsQRead a b v))]
theorem q_QRead {E : Ex} {a : Nat → Nat} {b : Nat → Nat} {v : QReadV} : (wQRead E a b v)[0]? = some (a 0, .inr (5, fsQRead a b v)) := rfl
theorem l_QRead {a : Nat → Nat} {b : Nat → Nat} {v : QReadV} : (fsQRead a b v).length = 5 := rfl
theorem g_QRead_tokens {a : Nat → Nat} {b : Nat → Nat} {v : QReadV} : (fsQRead a b v)[0]? = some (.ref (b 0)) := rfl
theorem g_QRead_left {a : Nat → Nat} {b : Nat → Nat} {v : QReadV} : (fsQRead a b v)[1]? = some (.ref (b 1)) := rfl
theorem g_QRead_right {a : Nat → Nat} {b : Nat → Nat} {v : QReadV} : (fsQRead a b v)[2]? = some (.ref (b 2)) := rfl
theorem g_QRead_error {a : Nat → Nat} {b : Nat → Nat} {v : QReadV} : (fsQRead a b v)[3]? = some (.int (QRead_error v)) := rfl
theorem g_QRead_answer {a : Nat → Nat} {b : Nat → Nat} {v : QReadV} : (fsQRead a b v)[4]? = some (.int (QRead_answer v)) := rfl
theorem p_QRead_error {E : Ex} {a : Nat → Nat} {b : Nat → Nat} {v : QReadV} {x : Int32} : (wQRead E a b v).set 0 (a 0, .inr (5, (fsQRead a b v).set 3 (.int x))) = wQRead E a b (QRead_set_error v x) := rfl
theorem p_QRead_answer {E : Ex} {a : Nat → Nat} {b : Nat → Nat} {v : QReadV} {x : Int32} : (wQRead E a b v).set 0 (a 0, .inr (5, (fsQRead a b v).set 4 (.int x))) = wQRead E a b (QRead_set_answer v x) := rfl
abbrev HistV : Type := Bool × Int32 × Int32
def Hist_saved (v : HistV) : Bool := v.1
def Hist_next (v : HistV) : Int32 := v.2.1
def Hist_count (v : HistV) : Int32 := v.2.2
def Hist_set_saved (v : HistV) (x : Bool) : HistV := (x, v.2)
def Hist_set_next (v : HistV) (x : Int32) : HistV := (v.1, x, v.2.2)
def Hist_set_count (v : HistV) (x : Int32) : HistV := (v.1, v.2.1, x)
def fsHist (a : Nat → Nat) (b : Nat → Nat) (v : HistV) : List Value := [.ref (b 0), .ref (b 1), .int (b2i (Hist_saved v)), .int (Hist_next v), .int (Hist_count v)]
def wHist (E : Ex) (a : Nat → Nat) (b : Nat → Nat) (v : HistV) : va_W := [(a 0, .inr (1, fsHist a b v))]
theorem q_Hist {E : Ex} {a : Nat → Nat} {b : Nat → Nat} {v : HistV} : (wHist E a b v)[0]? = some (a 0, .inr (1, fsHist a b v)) := rfl
theorem l_Hist {a : Nat → Nat} {b : Nat → Nat} {v : HistV} : (fsHist a b v).length = 5 := rfl
theorem g_Hist_earlier {a : Nat → Nat} {b : Nat → Nat} {v : HistV} : (fsHist a b v)[0]? = some (.ref (b 0)) := rfl
theorem g_Hist_snapshot {a : Nat → Nat} {b : Nat → Nat} {v : HistV} : (fsHist a b v)[1]? = some (.ref (b 1)) := rfl
theorem g_Hist_saved {a : Nat → Nat} {b : Nat → Nat} {v : HistV} : (fsHist a b v)[2]? = some (.int (b2i (Hist_saved v))) := rfl
theorem g_Hist_next {a : Nat → Nat} {b : Nat → Nat} {v : HistV} : (fsHist a b v)[3]? = some (.int (Hist_next v)) := rfl
theorem g_Hist_count {a : Nat → Nat} {b : Nat → Nat} {v : HistV} : (fsHist a b v)[4]? = some (.int (Hist_count v)) := rfl
theorem p_Hist_saved {E : Ex} {a : Nat → Nat} {b : Nat → Nat} {v : HistV} {x : Bool} : (wHist E a b v).set 0 (a 0, .inr (1, (fsHist a b v).set 2 (.int (b2i x)))) = wHist E a b (Hist_set_saved v x) := rfl
theorem p_Hist_next {E : Ex} {a : Nat → Nat} {b : Nat → Nat} {v : HistV} {x : Int32} : (wHist E a b v).set 0 (a 0, .inr (1, (fsHist a b v).set 3 (.int x))) = wHist E a b (Hist_set_next v x) := rfl
theorem p_Hist_count {E : Ex} {a : Nat → Nat} {b : Nat → Nat} {v : HistV} {x : Int32} : (wHist E a b v).set 0 (a 0, .inr (1, (fsHist a b v).set 4 (.int x))) = wHist E a b (Hist_set_count v x) := rfl
abbrev GWV : Type := (Nat → Int32) × Int32 × Int32 × Int32
def GW_formatted (v : GWV) : Nat → Int32 := v.1
def GW_formattedLength (v : GWV) : Int32 := v.2.1
def GW_lastErrorPosition (v : GWV) : Int32 := v.2.2.1
def GW_lastStamp (v : GWV) : Int32 := v.2.2.2
def GW_set_formatted (v : GWV) (x : Nat → Int32) : GWV := (x, v.2)
def GW_set_formattedLength (v : GWV) (x : Int32) : GWV := (v.1, x, v.2.2)
def GW_set_lastErrorPosition (v : GWV) (x : Int32) : GWV := (v.1, v.2.1, x, v.2.2.2)
def GW_set_lastStamp (v : GWV) (x : Int32) : GWV := (v.1, v.2.1, v.2.2.1, x)
def fsGW (a : Nat → Nat) (b : Nat → Nat) (v : GWV) : List Value := [.ref (b 0), .ref (b 1), .ref (b 2), .ref (b 3), .ref (b 4), .ref (b 5), .ref (b 6), .ref (b 7), .ref (b 8), .ref (b 9), .ref (a 1), .int (GW_formattedLength v), .int (GW_lastErrorPosition v), .int (GW_lastStamp v)]
def wGW (E : Ex) (a : Nat → Nat) (b : Nat → Nat) (v : GWV) : va_W := [(a 0, .inr (8, fsGW a b v)), (a 1, .inl (eI E, 64, .inl (GW_formatted v)))]
theorem q_GW {E : Ex} {a : Nat → Nat} {b : Nat → Nat} {v : GWV} : (wGW E a b v)[0]? = some (a 0, .inr (8, fsGW a b v)) := rfl
theorem l_GW {a : Nat → Nat} {b : Nat → Nat} {v : GWV} : (fsGW a b v).length = 14 := rfl
theorem g_GW_house {a : Nat → Nat} {b : Nat → Nat} {v : GWV} : (fsGW a b v)[0]? = some (.ref (b 0)) := rfl
theorem g_GW_scratch {a : Nat → Nat} {b : Nat → Nat} {v : GWV} : (fsGW a b v)[1]? = some (.ref (b 1)) := rfl
theorem g_GW_history {a : Nat → Nat} {b : Nat → Nat} {v : GWV} : (fsGW a b v)[2]? = some (.ref (b 2)) := rfl
theorem g_GW_sightings {a : Nat → Nat} {b : Nat → Nat} {v : GWV} : (fsGW a b v)[3]? = some (.ref (b 3)) := rfl
theorem g_GW_trialSightings {a : Nat → Nat} {b : Nat → Nat} {v : GWV} : (fsGW a b v)[4]? = some (.ref (b 4)) := rfl
theorem g_GW_bestPhases {a : Nat → Nat} {b : Nat → Nat} {v : GWV} : (fsGW a b v)[5]? = some (.ref (b 5)) := rfl
theorem g_GW_intruder {a : Nat → Nat} {b : Nat → Nat} {v : GWV} : (fsGW a b v)[6]? = some (.ref (b 6)) := rfl
theorem g_GW_tokens {a : Nat → Nat} {b : Nat → Nat} {v : GWV} : (fsGW a b v)[7]? = some (.ref (b 7)) := rfl
theorem g_GW_houseReader {a : Nat → Nat} {b : Nat → Nat} {v : GWV} : (fsGW a b v)[8]? = some (.ref (b 8)) := rfl
theorem g_GW_queryReader {a : Nat → Nat} {b : Nat → Nat} {v : GWV} : (fsGW a b v)[9]? = some (.ref (b 9)) := rfl
theorem g_GW_formatted {a : Nat → Nat} {b : Nat → Nat} {v : GWV} : (fsGW a b v)[10]? = some (.ref (a 1)) := rfl
theorem g_GW_formattedLength {a : Nat → Nat} {b : Nat → Nat} {v : GWV} : (fsGW a b v)[11]? = some (.int (GW_formattedLength v)) := rfl
theorem g_GW_lastErrorPosition {a : Nat → Nat} {b : Nat → Nat} {v : GWV} : (fsGW a b v)[12]? = some (.int (GW_lastErrorPosition v)) := rfl
theorem g_GW_lastStamp {a : Nat → Nat} {b : Nat → Nat} {v : GWV} : (fsGW a b v)[13]? = some (.int (GW_lastStamp v)) := rfl
theorem c_GW_formatted {E : Ex} {a : Nat → Nat} {b : Nat → Nat} {v : GWV} : (wGW E a b v)[1]? = some (a 1, .inl (eI E, 64, .inl (GW_formatted v))) := rfl
theorem s_GW_formatted {E : Ex} {a : Nat → Nat} {b : Nat → Nat} {v : GWV} {x : Nat → Int32} : (wGW E a b v).set 1 (a 1, .inl (eI E, 64, .inl x)) = wGW E a b (GW_set_formatted v x) := rfl
theorem p_GW_formattedLength {E : Ex} {a : Nat → Nat} {b : Nat → Nat} {v : GWV} {x : Int32} : (wGW E a b v).set 0 (a 0, .inr (8, (fsGW a b v).set 11 (.int x))) = wGW E a b (GW_set_formattedLength v x) := rfl
theorem p_GW_lastErrorPosition {E : Ex} {a : Nat → Nat} {b : Nat → Nat} {v : GWV} {x : Int32} : (wGW E a b v).set 0 (a 0, .inr (8, (fsGW a b v).set 12 (.int x))) = wGW E a b (GW_set_lastErrorPosition v x) := rfl
theorem p_GW_lastStamp {E : Ex} {a : Nat → Nat} {b : Nat → Nat} {v : GWV} {x : Int32} : (wGW E a b v).set 0 (a 0, .inr (8, (fsGW a b v).set 13 (.int x))) = wGW E a b (GW_set_lastStamp v x) := rfl
