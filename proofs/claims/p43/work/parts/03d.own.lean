abbrev OwnV : Type := Int32 × Int32 × Int32 × Int32
def Own_rooms (v : OwnV) : Int32 := v.1
def Own_doors (v : OwnV) : Int32 := v.2.1
def Own_guards (v : OwnV) : Int32 := v.2.2.1
def Own_minute (v : OwnV) : Int32 := v.2.2.2
def Own_set_rooms (v : OwnV) (x : Int32) : OwnV := (x, v.2)
def Own_set_doors (v : OwnV) (x : Int32) : OwnV := (v.1, x, v.2.2)
def Own_set_guards (v : OwnV) (x : Int32) : OwnV := (v.1, v.2.1, x, v.2.2.2)
def Own_set_minute (v : OwnV) (x : Int32) : OwnV := (v.1, v.2.1, v.2.2.1, x)
def fsOwn (a : Nat → Nat) (b : Nat → Nat) (v : OwnV) : List Value := [.int (Own_rooms v), .int (Own_doors v), .int (Own_guards v), .int (Own_minute v), .ref (b 0), .ref (b 1), .ref (b 2), .ref (b 3)]
def wOwn (E : Ex) (a : Nat → Nat) (b : Nat → Nat) (v : OwnV) : va_W := [(a 0, .inr (9, fsOwn a b v))]
theorem q_Own {E : Ex} {a : Nat → Nat} {b : Nat → Nat} {v : OwnV} : (wOwn E a b v)[0]? = some (a 0, .inr (9, fsOwn a b v)) := rfl
theorem l_Own {a : Nat → Nat} {b : Nat → Nat} {v : OwnV} : (fsOwn a b v).length = 8 := rfl
theorem g_Own_rooms {a : Nat → Nat} {b : Nat → Nat} {v : OwnV} : (fsOwn a b v)[0]? = some (.int (Own_rooms v)) := rfl
theorem g_Own_doors {a : Nat → Nat} {b : Nat → Nat} {v : OwnV} : (fsOwn a b v)[1]? = some (.int (Own_doors v)) := rfl
theorem g_Own_guards {a : Nat → Nat} {b : Nat → Nat} {v : OwnV} : (fsOwn a b v)[2]? = some (.int (Own_guards v)) := rfl
theorem g_Own_minute {a : Nat → Nat} {b : Nat → Nat} {v : OwnV} : (fsOwn a b v)[3]? = some (.int (Own_minute v)) := rfl
theorem g_Own_door {a : Nat → Nat} {b : Nat → Nat} {v : OwnV} : (fsOwn a b v)[4]? = some (.ref (b 0)) := rfl
theorem g_Own_room {a : Nat → Nat} {b : Nat → Nat} {v : OwnV} : (fsOwn a b v)[5]? = some (.ref (b 1)) := rfl
theorem g_Own_walk {a : Nat → Nat} {b : Nat → Nat} {v : OwnV} : (fsOwn a b v)[6]? = some (.ref (b 2)) := rfl
theorem g_Own_phase {a : Nat → Nat} {b : Nat → Nat} {v : OwnV} : (fsOwn a b v)[7]? = some (.ref (b 3)) := rfl
theorem p_Own_rooms {E : Ex} {a : Nat → Nat} {b : Nat → Nat} {v : OwnV} {x : Int32} : (wOwn E a b v).set 0 (a 0, .inr (9, (fsOwn a b v).set 0 (.int x))) = wOwn E a b (Own_set_rooms v x) := rfl
theorem p_Own_doors {E : Ex} {a : Nat → Nat} {b : Nat → Nat} {v : OwnV} {x : Int32} : (wOwn E a b v).set 0 (a 0, .inr (9, (fsOwn a b v).set 1 (.int x))) = wOwn E a b (Own_set_doors v x) := rfl
theorem p_Own_guards {E : Ex} {a : Nat → Nat} {b : Nat → Nat} {v : OwnV} {x : Int32} : (wOwn E a b v).set 0 (a 0, .inr (9, (fsOwn a b v).set 2 (.int x))) = wOwn E a b (Own_set_guards v x) := rfl
theorem p_Own_minute {E : Ex} {a : Nat → Nat} {b : Nat → Nat} {v : OwnV} {x : Int32} : (wOwn E a b v).set 0 (a 0, .inr (9, (fsOwn a b v).set 3 (.int x))) = wOwn E a b (Own_set_minute v x) := rfl
