section HFIELDS
variable (m : HouseV)
theorem Ho_rooms_rooms (x : Int32) : House_rooms (House_set_rooms m x) = x := rfl
theorem Ho_doors_rooms (x : Int32) : House_doors (House_set_rooms m x) = House_doors m := rfl
theorem Ho_guards_rooms (x : Int32) : House_guards (House_set_rooms m x) = House_guards m := rfl
theorem Ho_minute_rooms (x : Int32) : House_minute (House_set_rooms m x) = House_minute m := rfl
theorem Ho_openDoors_rooms (x : Int32) : House_openDoors (House_set_rooms m x) = House_openDoors m := rfl
theorem Ho_walksStamp_rooms (x : Int32) : House_walksStamp (House_set_rooms m x) = House_walksStamp m := rfl
theorem Ho_phasesStamp_rooms (x : Int32) : House_phasesStamp (House_set_rooms m x) = House_phasesStamp m := rfl
theorem Ho_doorFirst_rooms (x : Int32) : House_doorFirst (House_set_rooms m x) = House_doorFirst m := rfl
theorem Ho_doorSecond_rooms (x : Int32) : House_doorSecond (House_set_rooms m x) = House_doorSecond m := rfl
theorem Ho_joined_rooms (x : Int32) : House_joined (House_set_rooms m x) = House_joined m := rfl
theorem Ho_limits_rooms (x : Int32) : House_limits (House_set_rooms m x) = House_limits m := rfl
theorem Ho_periods_rooms (x : Int32) : House_periods (House_set_rooms m x) = House_periods m := rfl
theorem Ho_phases_rooms (x : Int32) : House_phases (House_set_rooms m x) = House_phases m := rfl
theorem Ho_walks_rooms (x : Int32) : House_walks (House_set_rooms m x) = House_walks m := rfl
theorem Ho_walked_rooms (x : Int32) : House_walked (House_set_rooms m x) = House_walked m := rfl
theorem Ho_sightings_rooms (x : Int32) : House_sightings (House_set_rooms m x) = House_sightings m := rfl
theorem Ho_lastSeen_rooms (x : Int32) : House_lastSeen (House_set_rooms m x) = House_lastSeen m := rfl
theorem Ho_runs_rooms (x : Int32) : House_runs (House_set_rooms m x) = House_runs m := rfl
theorem Ho_longestRuns_rooms (x : Int32) : House_longestRuns (House_set_rooms m x) = House_longestRuns m := rfl
theorem Ho_rooms_doors (x : Int32) : House_rooms (House_set_doors m x) = House_rooms m := rfl
theorem Ho_doors_doors (x : Int32) : House_doors (House_set_doors m x) = x := rfl
theorem Ho_guards_doors (x : Int32) : House_guards (House_set_doors m x) = House_guards m := rfl
theorem Ho_minute_doors (x : Int32) : House_minute (House_set_doors m x) = House_minute m := rfl
theorem Ho_openDoors_doors (x : Int32) : House_openDoors (House_set_doors m x) = House_openDoors m := rfl
theorem Ho_walksStamp_doors (x : Int32) : House_walksStamp (House_set_doors m x) = House_walksStamp m := rfl
theorem Ho_phasesStamp_doors (x : Int32) : House_phasesStamp (House_set_doors m x) = House_phasesStamp m := rfl
theorem Ho_doorFirst_doors (x : Int32) : House_doorFirst (House_set_doors m x) = House_doorFirst m := rfl
theorem Ho_doorSecond_doors (x : Int32) : House_doorSecond (House_set_doors m x) = House_doorSecond m := rfl
theorem Ho_joined_doors (x : Int32) : House_joined (House_set_doors m x) = House_joined m := rfl
theorem Ho_limits_doors (x : Int32) : House_limits (House_set_doors m x) = House_limits m := rfl
theorem Ho_periods_doors (x : Int32) : House_periods (House_set_doors m x) = House_periods m := rfl
theorem Ho_phases_doors (x : Int32) : House_phases (House_set_doors m x) = House_phases m := rfl
theorem Ho_walks_doors (x : Int32) : House_walks (House_set_doors m x) = House_walks m := rfl
theorem Ho_walked_doors (x : Int32) : House_walked (House_set_doors m x) = House_walked m := rfl
theorem Ho_sightings_doors (x : Int32) : House_sightings (House_set_doors m x) = House_sightings m := rfl
theorem Ho_lastSeen_doors (x : Int32) : House_lastSeen (House_set_doors m x) = House_lastSeen m := rfl
theorem Ho_runs_doors (x : Int32) : House_runs (House_set_doors m x) = House_runs m := rfl
theorem Ho_longestRuns_doors (x : Int32) : House_longestRuns (House_set_doors m x) = House_longestRuns m := rfl
theorem Ho_rooms_guards (x : Int32) : House_rooms (House_set_guards m x) = House_rooms m := rfl
theorem Ho_doors_guards (x : Int32) : House_doors (House_set_guards m x) = House_doors m := rfl
theorem Ho_guards_guards (x : Int32) : House_guards (House_set_guards m x) = x := rfl
theorem Ho_minute_guards (x : Int32) : House_minute (House_set_guards m x) = House_minute m := rfl
theorem Ho_openDoors_guards (x : Int32) : House_openDoors (House_set_guards m x) = House_openDoors m := rfl
theorem Ho_walksStamp_guards (x : Int32) : House_walksStamp (House_set_guards m x) = House_walksStamp m := rfl
theorem Ho_phasesStamp_guards (x : Int32) : House_phasesStamp (House_set_guards m x) = House_phasesStamp m := rfl
theorem Ho_doorFirst_guards (x : Int32) : House_doorFirst (House_set_guards m x) = House_doorFirst m := rfl
theorem Ho_doorSecond_guards (x : Int32) : House_doorSecond (House_set_guards m x) = House_doorSecond m := rfl
theorem Ho_joined_guards (x : Int32) : House_joined (House_set_guards m x) = House_joined m := rfl
theorem Ho_limits_guards (x : Int32) : House_limits (House_set_guards m x) = House_limits m := rfl
theorem Ho_periods_guards (x : Int32) : House_periods (House_set_guards m x) = House_periods m := rfl
theorem Ho_phases_guards (x : Int32) : House_phases (House_set_guards m x) = House_phases m := rfl
theorem Ho_walks_guards (x : Int32) : House_walks (House_set_guards m x) = House_walks m := rfl
theorem Ho_walked_guards (x : Int32) : House_walked (House_set_guards m x) = House_walked m := rfl
theorem Ho_sightings_guards (x : Int32) : House_sightings (House_set_guards m x) = House_sightings m := rfl
theorem Ho_lastSeen_guards (x : Int32) : House_lastSeen (House_set_guards m x) = House_lastSeen m := rfl
theorem Ho_runs_guards (x : Int32) : House_runs (House_set_guards m x) = House_runs m := rfl
theorem Ho_longestRuns_guards (x : Int32) : House_longestRuns (House_set_guards m x) = House_longestRuns m := rfl
theorem Ho_rooms_minute (x : Int32) : House_rooms (House_set_minute m x) = House_rooms m := rfl
theorem Ho_doors_minute (x : Int32) : House_doors (House_set_minute m x) = House_doors m := rfl
theorem Ho_guards_minute (x : Int32) : House_guards (House_set_minute m x) = House_guards m := rfl
theorem Ho_minute_minute (x : Int32) : House_minute (House_set_minute m x) = x := rfl
theorem Ho_openDoors_minute (x : Int32) : House_openDoors (House_set_minute m x) = House_openDoors m := rfl
theorem Ho_walksStamp_minute (x : Int32) : House_walksStamp (House_set_minute m x) = House_walksStamp m := rfl
theorem Ho_phasesStamp_minute (x : Int32) : House_phasesStamp (House_set_minute m x) = House_phasesStamp m := rfl
theorem Ho_doorFirst_minute (x : Int32) : House_doorFirst (House_set_minute m x) = House_doorFirst m := rfl
theorem Ho_doorSecond_minute (x : Int32) : House_doorSecond (House_set_minute m x) = House_doorSecond m := rfl
theorem Ho_joined_minute (x : Int32) : House_joined (House_set_minute m x) = House_joined m := rfl
theorem Ho_limits_minute (x : Int32) : House_limits (House_set_minute m x) = House_limits m := rfl
theorem Ho_periods_minute (x : Int32) : House_periods (House_set_minute m x) = House_periods m := rfl
theorem Ho_phases_minute (x : Int32) : House_phases (House_set_minute m x) = House_phases m := rfl
theorem Ho_walks_minute (x : Int32) : House_walks (House_set_minute m x) = House_walks m := rfl
theorem Ho_walked_minute (x : Int32) : House_walked (House_set_minute m x) = House_walked m := rfl
theorem Ho_sightings_minute (x : Int32) : House_sightings (House_set_minute m x) = House_sightings m := rfl
theorem Ho_lastSeen_minute (x : Int32) : House_lastSeen (House_set_minute m x) = House_lastSeen m := rfl
theorem Ho_runs_minute (x : Int32) : House_runs (House_set_minute m x) = House_runs m := rfl
theorem Ho_longestRuns_minute (x : Int32) : House_longestRuns (House_set_minute m x) = House_longestRuns m := rfl
theorem Ho_rooms_openDoors (x : Int32) : House_rooms (House_set_openDoors m x) = House_rooms m := rfl
theorem Ho_doors_openDoors (x : Int32) : House_doors (House_set_openDoors m x) = House_doors m := rfl
theorem Ho_guards_openDoors (x : Int32) : House_guards (House_set_openDoors m x) = House_guards m := rfl
theorem Ho_minute_openDoors (x : Int32) : House_minute (House_set_openDoors m x) = House_minute m := rfl
theorem Ho_openDoors_openDoors (x : Int32) : House_openDoors (House_set_openDoors m x) = x := rfl
theorem Ho_walksStamp_openDoors (x : Int32) : House_walksStamp (House_set_openDoors m x) = House_walksStamp m := rfl
theorem Ho_phasesStamp_openDoors (x : Int32) : House_phasesStamp (House_set_openDoors m x) = House_phasesStamp m := rfl
theorem Ho_doorFirst_openDoors (x : Int32) : House_doorFirst (House_set_openDoors m x) = House_doorFirst m := rfl
theorem Ho_doorSecond_openDoors (x : Int32) : House_doorSecond (House_set_openDoors m x) = House_doorSecond m := rfl
theorem Ho_joined_openDoors (x : Int32) : House_joined (House_set_openDoors m x) = House_joined m := rfl
theorem Ho_limits_openDoors (x : Int32) : House_limits (House_set_openDoors m x) = House_limits m := rfl
theorem Ho_periods_openDoors (x : Int32) : House_periods (House_set_openDoors m x) = House_periods m := rfl
theorem Ho_phases_openDoors (x : Int32) : House_phases (House_set_openDoors m x) = House_phases m := rfl
theorem Ho_walks_openDoors (x : Int32) : House_walks (House_set_openDoors m x) = House_walks m := rfl
theorem Ho_walked_openDoors (x : Int32) : House_walked (House_set_openDoors m x) = House_walked m := rfl
theorem Ho_sightings_openDoors (x : Int32) : House_sightings (House_set_openDoors m x) = House_sightings m := rfl
theorem Ho_lastSeen_openDoors (x : Int32) : House_lastSeen (House_set_openDoors m x) = House_lastSeen m := rfl
theorem Ho_runs_openDoors (x : Int32) : House_runs (House_set_openDoors m x) = House_runs m := rfl
theorem Ho_longestRuns_openDoors (x : Int32) : House_longestRuns (House_set_openDoors m x) = House_longestRuns m := rfl
theorem Ho_rooms_walksStamp (x : Int32) : House_rooms (House_set_walksStamp m x) = House_rooms m := rfl
theorem Ho_doors_walksStamp (x : Int32) : House_doors (House_set_walksStamp m x) = House_doors m := rfl
theorem Ho_guards_walksStamp (x : Int32) : House_guards (House_set_walksStamp m x) = House_guards m := rfl
theorem Ho_minute_walksStamp (x : Int32) : House_minute (House_set_walksStamp m x) = House_minute m := rfl
theorem Ho_openDoors_walksStamp (x : Int32) : House_openDoors (House_set_walksStamp m x) = House_openDoors m := rfl
theorem Ho_walksStamp_walksStamp (x : Int32) : House_walksStamp (House_set_walksStamp m x) = x := rfl
theorem Ho_phasesStamp_walksStamp (x : Int32) : House_phasesStamp (House_set_walksStamp m x) = House_phasesStamp m := rfl
theorem Ho_doorFirst_walksStamp (x : Int32) : House_doorFirst (House_set_walksStamp m x) = House_doorFirst m := rfl
theorem Ho_doorSecond_walksStamp (x : Int32) : House_doorSecond (House_set_walksStamp m x) = House_doorSecond m := rfl
theorem Ho_joined_walksStamp (x : Int32) : House_joined (House_set_walksStamp m x) = House_joined m := rfl
theorem Ho_limits_walksStamp (x : Int32) : House_limits (House_set_walksStamp m x) = House_limits m := rfl
theorem Ho_periods_walksStamp (x : Int32) : House_periods (House_set_walksStamp m x) = House_periods m := rfl
theorem Ho_phases_walksStamp (x : Int32) : House_phases (House_set_walksStamp m x) = House_phases m := rfl
theorem Ho_walks_walksStamp (x : Int32) : House_walks (House_set_walksStamp m x) = House_walks m := rfl
theorem Ho_walked_walksStamp (x : Int32) : House_walked (House_set_walksStamp m x) = House_walked m := rfl
theorem Ho_sightings_walksStamp (x : Int32) : House_sightings (House_set_walksStamp m x) = House_sightings m := rfl
theorem Ho_lastSeen_walksStamp (x : Int32) : House_lastSeen (House_set_walksStamp m x) = House_lastSeen m := rfl
theorem Ho_runs_walksStamp (x : Int32) : House_runs (House_set_walksStamp m x) = House_runs m := rfl
theorem Ho_longestRuns_walksStamp (x : Int32) : House_longestRuns (House_set_walksStamp m x) = House_longestRuns m := rfl
theorem Ho_rooms_phasesStamp (x : Int32) : House_rooms (House_set_phasesStamp m x) = House_rooms m := rfl
theorem Ho_doors_phasesStamp (x : Int32) : House_doors (House_set_phasesStamp m x) = House_doors m := rfl
theorem Ho_guards_phasesStamp (x : Int32) : House_guards (House_set_phasesStamp m x) = House_guards m := rfl
theorem Ho_minute_phasesStamp (x : Int32) : House_minute (House_set_phasesStamp m x) = House_minute m := rfl
theorem Ho_openDoors_phasesStamp (x : Int32) : House_openDoors (House_set_phasesStamp m x) = House_openDoors m := rfl
theorem Ho_walksStamp_phasesStamp (x : Int32) : House_walksStamp (House_set_phasesStamp m x) = House_walksStamp m := rfl
theorem Ho_phasesStamp_phasesStamp (x : Int32) : House_phasesStamp (House_set_phasesStamp m x) = x := rfl
theorem Ho_doorFirst_phasesStamp (x : Int32) : House_doorFirst (House_set_phasesStamp m x) = House_doorFirst m := rfl
theorem Ho_doorSecond_phasesStamp (x : Int32) : House_doorSecond (House_set_phasesStamp m x) = House_doorSecond m := rfl
theorem Ho_joined_phasesStamp (x : Int32) : House_joined (House_set_phasesStamp m x) = House_joined m := rfl
theorem Ho_limits_phasesStamp (x : Int32) : House_limits (House_set_phasesStamp m x) = House_limits m := rfl
theorem Ho_periods_phasesStamp (x : Int32) : House_periods (House_set_phasesStamp m x) = House_periods m := rfl
theorem Ho_phases_phasesStamp (x : Int32) : House_phases (House_set_phasesStamp m x) = House_phases m := rfl
theorem Ho_walks_phasesStamp (x : Int32) : House_walks (House_set_phasesStamp m x) = House_walks m := rfl
theorem Ho_walked_phasesStamp (x : Int32) : House_walked (House_set_phasesStamp m x) = House_walked m := rfl
theorem Ho_sightings_phasesStamp (x : Int32) : House_sightings (House_set_phasesStamp m x) = House_sightings m := rfl
theorem Ho_lastSeen_phasesStamp (x : Int32) : House_lastSeen (House_set_phasesStamp m x) = House_lastSeen m := rfl
theorem Ho_runs_phasesStamp (x : Int32) : House_runs (House_set_phasesStamp m x) = House_runs m := rfl
theorem Ho_longestRuns_phasesStamp (x : Int32) : House_longestRuns (House_set_phasesStamp m x) = House_longestRuns m := rfl
theorem Ho_rooms_doorFirst (x : Nat → Int32) : House_rooms (House_set_doorFirst m x) = House_rooms m := rfl
theorem Ho_doors_doorFirst (x : Nat → Int32) : House_doors (House_set_doorFirst m x) = House_doors m := rfl
theorem Ho_guards_doorFirst (x : Nat → Int32) : House_guards (House_set_doorFirst m x) = House_guards m := rfl
theorem Ho_minute_doorFirst (x : Nat → Int32) : House_minute (House_set_doorFirst m x) = House_minute m := rfl
theorem Ho_openDoors_doorFirst (x : Nat → Int32) : House_openDoors (House_set_doorFirst m x) = House_openDoors m := rfl
theorem Ho_walksStamp_doorFirst (x : Nat → Int32) : House_walksStamp (House_set_doorFirst m x) = House_walksStamp m := rfl
theorem Ho_phasesStamp_doorFirst (x : Nat → Int32) : House_phasesStamp (House_set_doorFirst m x) = House_phasesStamp m := rfl
theorem Ho_doorFirst_doorFirst (x : Nat → Int32) : House_doorFirst (House_set_doorFirst m x) = x := rfl
theorem Ho_doorSecond_doorFirst (x : Nat → Int32) : House_doorSecond (House_set_doorFirst m x) = House_doorSecond m := rfl
theorem Ho_joined_doorFirst (x : Nat → Int32) : House_joined (House_set_doorFirst m x) = House_joined m := rfl
theorem Ho_limits_doorFirst (x : Nat → Int32) : House_limits (House_set_doorFirst m x) = House_limits m := rfl
theorem Ho_periods_doorFirst (x : Nat → Int32) : House_periods (House_set_doorFirst m x) = House_periods m := rfl
theorem Ho_phases_doorFirst (x : Nat → Int32) : House_phases (House_set_doorFirst m x) = House_phases m := rfl
theorem Ho_walks_doorFirst (x : Nat → Int32) : House_walks (House_set_doorFirst m x) = House_walks m := rfl
theorem Ho_walked_doorFirst (x : Nat → Int32) : House_walked (House_set_doorFirst m x) = House_walked m := rfl
theorem Ho_sightings_doorFirst (x : Nat → Int32) : House_sightings (House_set_doorFirst m x) = House_sightings m := rfl
theorem Ho_lastSeen_doorFirst (x : Nat → Int32) : House_lastSeen (House_set_doorFirst m x) = House_lastSeen m := rfl
theorem Ho_runs_doorFirst (x : Nat → Int32) : House_runs (House_set_doorFirst m x) = House_runs m := rfl
theorem Ho_longestRuns_doorFirst (x : Nat → Int32) : House_longestRuns (House_set_doorFirst m x) = House_longestRuns m := rfl
theorem Ho_rooms_doorSecond (x : Nat → Int32) : House_rooms (House_set_doorSecond m x) = House_rooms m := rfl
theorem Ho_doors_doorSecond (x : Nat → Int32) : House_doors (House_set_doorSecond m x) = House_doors m := rfl
theorem Ho_guards_doorSecond (x : Nat → Int32) : House_guards (House_set_doorSecond m x) = House_guards m := rfl
theorem Ho_minute_doorSecond (x : Nat → Int32) : House_minute (House_set_doorSecond m x) = House_minute m := rfl
theorem Ho_openDoors_doorSecond (x : Nat → Int32) : House_openDoors (House_set_doorSecond m x) = House_openDoors m := rfl
theorem Ho_walksStamp_doorSecond (x : Nat → Int32) : House_walksStamp (House_set_doorSecond m x) = House_walksStamp m := rfl
theorem Ho_phasesStamp_doorSecond (x : Nat → Int32) : House_phasesStamp (House_set_doorSecond m x) = House_phasesStamp m := rfl
theorem Ho_doorFirst_doorSecond (x : Nat → Int32) : House_doorFirst (House_set_doorSecond m x) = House_doorFirst m := rfl
theorem Ho_doorSecond_doorSecond (x : Nat → Int32) : House_doorSecond (House_set_doorSecond m x) = x := rfl
theorem Ho_joined_doorSecond (x : Nat → Int32) : House_joined (House_set_doorSecond m x) = House_joined m := rfl
theorem Ho_limits_doorSecond (x : Nat → Int32) : House_limits (House_set_doorSecond m x) = House_limits m := rfl
theorem Ho_periods_doorSecond (x : Nat → Int32) : House_periods (House_set_doorSecond m x) = House_periods m := rfl
theorem Ho_phases_doorSecond (x : Nat → Int32) : House_phases (House_set_doorSecond m x) = House_phases m := rfl
theorem Ho_walks_doorSecond (x : Nat → Int32) : House_walks (House_set_doorSecond m x) = House_walks m := rfl
theorem Ho_walked_doorSecond (x : Nat → Int32) : House_walked (House_set_doorSecond m x) = House_walked m := rfl
theorem Ho_sightings_doorSecond (x : Nat → Int32) : House_sightings (House_set_doorSecond m x) = House_sightings m := rfl
theorem Ho_lastSeen_doorSecond (x : Nat → Int32) : House_lastSeen (House_set_doorSecond m x) = House_lastSeen m := rfl
theorem Ho_runs_doorSecond (x : Nat → Int32) : House_runs (House_set_doorSecond m x) = House_runs m := rfl
theorem Ho_longestRuns_doorSecond (x : Nat → Int32) : House_longestRuns (House_set_doorSecond m x) = House_longestRuns m := rfl
theorem Ho_rooms_joined (x : Nat → Int32) : House_rooms (House_set_joined m x) = House_rooms m := rfl
theorem Ho_doors_joined (x : Nat → Int32) : House_doors (House_set_joined m x) = House_doors m := rfl
theorem Ho_guards_joined (x : Nat → Int32) : House_guards (House_set_joined m x) = House_guards m := rfl
theorem Ho_minute_joined (x : Nat → Int32) : House_minute (House_set_joined m x) = House_minute m := rfl
theorem Ho_openDoors_joined (x : Nat → Int32) : House_openDoors (House_set_joined m x) = House_openDoors m := rfl
theorem Ho_walksStamp_joined (x : Nat → Int32) : House_walksStamp (House_set_joined m x) = House_walksStamp m := rfl
theorem Ho_phasesStamp_joined (x : Nat → Int32) : House_phasesStamp (House_set_joined m x) = House_phasesStamp m := rfl
theorem Ho_doorFirst_joined (x : Nat → Int32) : House_doorFirst (House_set_joined m x) = House_doorFirst m := rfl
theorem Ho_doorSecond_joined (x : Nat → Int32) : House_doorSecond (House_set_joined m x) = House_doorSecond m := rfl
theorem Ho_joined_joined (x : Nat → Int32) : House_joined (House_set_joined m x) = x := rfl
theorem Ho_limits_joined (x : Nat → Int32) : House_limits (House_set_joined m x) = House_limits m := rfl
theorem Ho_periods_joined (x : Nat → Int32) : House_periods (House_set_joined m x) = House_periods m := rfl
theorem Ho_phases_joined (x : Nat → Int32) : House_phases (House_set_joined m x) = House_phases m := rfl
theorem Ho_walks_joined (x : Nat → Int32) : House_walks (House_set_joined m x) = House_walks m := rfl
theorem Ho_walked_joined (x : Nat → Int32) : House_walked (House_set_joined m x) = House_walked m := rfl
theorem Ho_sightings_joined (x : Nat → Int32) : House_sightings (House_set_joined m x) = House_sightings m := rfl
theorem Ho_lastSeen_joined (x : Nat → Int32) : House_lastSeen (House_set_joined m x) = House_lastSeen m := rfl
theorem Ho_runs_joined (x : Nat → Int32) : House_runs (House_set_joined m x) = House_runs m := rfl
theorem Ho_longestRuns_joined (x : Nat → Int32) : House_longestRuns (House_set_joined m x) = House_longestRuns m := rfl
theorem Ho_rooms_limits (x : Nat → Int32) : House_rooms (House_set_limits m x) = House_rooms m := rfl
theorem Ho_doors_limits (x : Nat → Int32) : House_doors (House_set_limits m x) = House_doors m := rfl
theorem Ho_guards_limits (x : Nat → Int32) : House_guards (House_set_limits m x) = House_guards m := rfl
theorem Ho_minute_limits (x : Nat → Int32) : House_minute (House_set_limits m x) = House_minute m := rfl
theorem Ho_openDoors_limits (x : Nat → Int32) : House_openDoors (House_set_limits m x) = House_openDoors m := rfl
theorem Ho_walksStamp_limits (x : Nat → Int32) : House_walksStamp (House_set_limits m x) = House_walksStamp m := rfl
theorem Ho_phasesStamp_limits (x : Nat → Int32) : House_phasesStamp (House_set_limits m x) = House_phasesStamp m := rfl
theorem Ho_doorFirst_limits (x : Nat → Int32) : House_doorFirst (House_set_limits m x) = House_doorFirst m := rfl
theorem Ho_doorSecond_limits (x : Nat → Int32) : House_doorSecond (House_set_limits m x) = House_doorSecond m := rfl
theorem Ho_joined_limits (x : Nat → Int32) : House_joined (House_set_limits m x) = House_joined m := rfl
theorem Ho_limits_limits (x : Nat → Int32) : House_limits (House_set_limits m x) = x := rfl
theorem Ho_periods_limits (x : Nat → Int32) : House_periods (House_set_limits m x) = House_periods m := rfl
theorem Ho_phases_limits (x : Nat → Int32) : House_phases (House_set_limits m x) = House_phases m := rfl
theorem Ho_walks_limits (x : Nat → Int32) : House_walks (House_set_limits m x) = House_walks m := rfl
theorem Ho_walked_limits (x : Nat → Int32) : House_walked (House_set_limits m x) = House_walked m := rfl
theorem Ho_sightings_limits (x : Nat → Int32) : House_sightings (House_set_limits m x) = House_sightings m := rfl
theorem Ho_lastSeen_limits (x : Nat → Int32) : House_lastSeen (House_set_limits m x) = House_lastSeen m := rfl
theorem Ho_runs_limits (x : Nat → Int32) : House_runs (House_set_limits m x) = House_runs m := rfl
theorem Ho_longestRuns_limits (x : Nat → Int32) : House_longestRuns (House_set_limits m x) = House_longestRuns m := rfl
theorem Ho_rooms_periods (x : Nat → Int32) : House_rooms (House_set_periods m x) = House_rooms m := rfl
theorem Ho_doors_periods (x : Nat → Int32) : House_doors (House_set_periods m x) = House_doors m := rfl
theorem Ho_guards_periods (x : Nat → Int32) : House_guards (House_set_periods m x) = House_guards m := rfl
theorem Ho_minute_periods (x : Nat → Int32) : House_minute (House_set_periods m x) = House_minute m := rfl
theorem Ho_openDoors_periods (x : Nat → Int32) : House_openDoors (House_set_periods m x) = House_openDoors m := rfl
theorem Ho_walksStamp_periods (x : Nat → Int32) : House_walksStamp (House_set_periods m x) = House_walksStamp m := rfl
theorem Ho_phasesStamp_periods (x : Nat → Int32) : House_phasesStamp (House_set_periods m x) = House_phasesStamp m := rfl
theorem Ho_doorFirst_periods (x : Nat → Int32) : House_doorFirst (House_set_periods m x) = House_doorFirst m := rfl
theorem Ho_doorSecond_periods (x : Nat → Int32) : House_doorSecond (House_set_periods m x) = House_doorSecond m := rfl
theorem Ho_joined_periods (x : Nat → Int32) : House_joined (House_set_periods m x) = House_joined m := rfl
theorem Ho_limits_periods (x : Nat → Int32) : House_limits (House_set_periods m x) = House_limits m := rfl
theorem Ho_periods_periods (x : Nat → Int32) : House_periods (House_set_periods m x) = x := rfl
theorem Ho_phases_periods (x : Nat → Int32) : House_phases (House_set_periods m x) = House_phases m := rfl
theorem Ho_walks_periods (x : Nat → Int32) : House_walks (House_set_periods m x) = House_walks m := rfl
theorem Ho_walked_periods (x : Nat → Int32) : House_walked (House_set_periods m x) = House_walked m := rfl
theorem Ho_sightings_periods (x : Nat → Int32) : House_sightings (House_set_periods m x) = House_sightings m := rfl
theorem Ho_lastSeen_periods (x : Nat → Int32) : House_lastSeen (House_set_periods m x) = House_lastSeen m := rfl
theorem Ho_runs_periods (x : Nat → Int32) : House_runs (House_set_periods m x) = House_runs m := rfl
theorem Ho_longestRuns_periods (x : Nat → Int32) : House_longestRuns (House_set_periods m x) = House_longestRuns m := rfl
theorem Ho_rooms_phases (x : Nat → Int32) : House_rooms (House_set_phases m x) = House_rooms m := rfl
theorem Ho_doors_phases (x : Nat → Int32) : House_doors (House_set_phases m x) = House_doors m := rfl
theorem Ho_guards_phases (x : Nat → Int32) : House_guards (House_set_phases m x) = House_guards m := rfl
theorem Ho_minute_phases (x : Nat → Int32) : House_minute (House_set_phases m x) = House_minute m := rfl
theorem Ho_openDoors_phases (x : Nat → Int32) : House_openDoors (House_set_phases m x) = House_openDoors m := rfl
theorem Ho_walksStamp_phases (x : Nat → Int32) : House_walksStamp (House_set_phases m x) = House_walksStamp m := rfl
theorem Ho_phasesStamp_phases (x : Nat → Int32) : House_phasesStamp (House_set_phases m x) = House_phasesStamp m := rfl
theorem Ho_doorFirst_phases (x : Nat → Int32) : House_doorFirst (House_set_phases m x) = House_doorFirst m := rfl
theorem Ho_doorSecond_phases (x : Nat → Int32) : House_doorSecond (House_set_phases m x) = House_doorSecond m := rfl
theorem Ho_joined_phases (x : Nat → Int32) : House_joined (House_set_phases m x) = House_joined m := rfl
theorem Ho_limits_phases (x : Nat → Int32) : House_limits (House_set_phases m x) = House_limits m := rfl
theorem Ho_periods_phases (x : Nat → Int32) : House_periods (House_set_phases m x) = House_periods m := rfl
theorem Ho_phases_phases (x : Nat → Int32) : House_phases (House_set_phases m x) = x := rfl
theorem Ho_walks_phases (x : Nat → Int32) : House_walks (House_set_phases m x) = House_walks m := rfl
theorem Ho_walked_phases (x : Nat → Int32) : House_walked (House_set_phases m x) = House_walked m := rfl
theorem Ho_sightings_phases (x : Nat → Int32) : House_sightings (House_set_phases m x) = House_sightings m := rfl
theorem Ho_lastSeen_phases (x : Nat → Int32) : House_lastSeen (House_set_phases m x) = House_lastSeen m := rfl
theorem Ho_runs_phases (x : Nat → Int32) : House_runs (House_set_phases m x) = House_runs m := rfl
theorem Ho_longestRuns_phases (x : Nat → Int32) : House_longestRuns (House_set_phases m x) = House_longestRuns m := rfl
theorem Ho_rooms_walks (x : Nat → Int32) : House_rooms (House_set_walks m x) = House_rooms m := rfl
theorem Ho_doors_walks (x : Nat → Int32) : House_doors (House_set_walks m x) = House_doors m := rfl
theorem Ho_guards_walks (x : Nat → Int32) : House_guards (House_set_walks m x) = House_guards m := rfl
theorem Ho_minute_walks (x : Nat → Int32) : House_minute (House_set_walks m x) = House_minute m := rfl
theorem Ho_openDoors_walks (x : Nat → Int32) : House_openDoors (House_set_walks m x) = House_openDoors m := rfl
theorem Ho_walksStamp_walks (x : Nat → Int32) : House_walksStamp (House_set_walks m x) = House_walksStamp m := rfl
theorem Ho_phasesStamp_walks (x : Nat → Int32) : House_phasesStamp (House_set_walks m x) = House_phasesStamp m := rfl
theorem Ho_doorFirst_walks (x : Nat → Int32) : House_doorFirst (House_set_walks m x) = House_doorFirst m := rfl
theorem Ho_doorSecond_walks (x : Nat → Int32) : House_doorSecond (House_set_walks m x) = House_doorSecond m := rfl
theorem Ho_joined_walks (x : Nat → Int32) : House_joined (House_set_walks m x) = House_joined m := rfl
theorem Ho_limits_walks (x : Nat → Int32) : House_limits (House_set_walks m x) = House_limits m := rfl
theorem Ho_periods_walks (x : Nat → Int32) : House_periods (House_set_walks m x) = House_periods m := rfl
theorem Ho_phases_walks (x : Nat → Int32) : House_phases (House_set_walks m x) = House_phases m := rfl
theorem Ho_walks_walks (x : Nat → Int32) : House_walks (House_set_walks m x) = x := rfl
theorem Ho_walked_walks (x : Nat → Int32) : House_walked (House_set_walks m x) = House_walked m := rfl
theorem Ho_sightings_walks (x : Nat → Int32) : House_sightings (House_set_walks m x) = House_sightings m := rfl
theorem Ho_lastSeen_walks (x : Nat → Int32) : House_lastSeen (House_set_walks m x) = House_lastSeen m := rfl
theorem Ho_runs_walks (x : Nat → Int32) : House_runs (House_set_walks m x) = House_runs m := rfl
theorem Ho_longestRuns_walks (x : Nat → Int32) : House_longestRuns (House_set_walks m x) = House_longestRuns m := rfl
theorem Ho_rooms_walked (x : Nat → Int32) : House_rooms (House_set_walked m x) = House_rooms m := rfl
theorem Ho_doors_walked (x : Nat → Int32) : House_doors (House_set_walked m x) = House_doors m := rfl
theorem Ho_guards_walked (x : Nat → Int32) : House_guards (House_set_walked m x) = House_guards m := rfl
theorem Ho_minute_walked (x : Nat → Int32) : House_minute (House_set_walked m x) = House_minute m := rfl
theorem Ho_openDoors_walked (x : Nat → Int32) : House_openDoors (House_set_walked m x) = House_openDoors m := rfl
theorem Ho_walksStamp_walked (x : Nat → Int32) : House_walksStamp (House_set_walked m x) = House_walksStamp m := rfl
theorem Ho_phasesStamp_walked (x : Nat → Int32) : House_phasesStamp (House_set_walked m x) = House_phasesStamp m := rfl
theorem Ho_doorFirst_walked (x : Nat → Int32) : House_doorFirst (House_set_walked m x) = House_doorFirst m := rfl
theorem Ho_doorSecond_walked (x : Nat → Int32) : House_doorSecond (House_set_walked m x) = House_doorSecond m := rfl
theorem Ho_joined_walked (x : Nat → Int32) : House_joined (House_set_walked m x) = House_joined m := rfl
theorem Ho_limits_walked (x : Nat → Int32) : House_limits (House_set_walked m x) = House_limits m := rfl
theorem Ho_periods_walked (x : Nat → Int32) : House_periods (House_set_walked m x) = House_periods m := rfl
theorem Ho_phases_walked (x : Nat → Int32) : House_phases (House_set_walked m x) = House_phases m := rfl
theorem Ho_walks_walked (x : Nat → Int32) : House_walks (House_set_walked m x) = House_walks m := rfl
theorem Ho_walked_walked (x : Nat → Int32) : House_walked (House_set_walked m x) = x := rfl
theorem Ho_sightings_walked (x : Nat → Int32) : House_sightings (House_set_walked m x) = House_sightings m := rfl
theorem Ho_lastSeen_walked (x : Nat → Int32) : House_lastSeen (House_set_walked m x) = House_lastSeen m := rfl
theorem Ho_runs_walked (x : Nat → Int32) : House_runs (House_set_walked m x) = House_runs m := rfl
theorem Ho_longestRuns_walked (x : Nat → Int32) : House_longestRuns (House_set_walked m x) = House_longestRuns m := rfl
theorem Ho_rooms_sightings (x : Nat → Int32) : House_rooms (House_set_sightings m x) = House_rooms m := rfl
theorem Ho_doors_sightings (x : Nat → Int32) : House_doors (House_set_sightings m x) = House_doors m := rfl
theorem Ho_guards_sightings (x : Nat → Int32) : House_guards (House_set_sightings m x) = House_guards m := rfl
theorem Ho_minute_sightings (x : Nat → Int32) : House_minute (House_set_sightings m x) = House_minute m := rfl
theorem Ho_openDoors_sightings (x : Nat → Int32) : House_openDoors (House_set_sightings m x) = House_openDoors m := rfl
theorem Ho_walksStamp_sightings (x : Nat → Int32) : House_walksStamp (House_set_sightings m x) = House_walksStamp m := rfl
theorem Ho_phasesStamp_sightings (x : Nat → Int32) : House_phasesStamp (House_set_sightings m x) = House_phasesStamp m := rfl
theorem Ho_doorFirst_sightings (x : Nat → Int32) : House_doorFirst (House_set_sightings m x) = House_doorFirst m := rfl
theorem Ho_doorSecond_sightings (x : Nat → Int32) : House_doorSecond (House_set_sightings m x) = House_doorSecond m := rfl
theorem Ho_joined_sightings (x : Nat → Int32) : House_joined (House_set_sightings m x) = House_joined m := rfl
theorem Ho_limits_sightings (x : Nat → Int32) : House_limits (House_set_sightings m x) = House_limits m := rfl
theorem Ho_periods_sightings (x : Nat → Int32) : House_periods (House_set_sightings m x) = House_periods m := rfl
theorem Ho_phases_sightings (x : Nat → Int32) : House_phases (House_set_sightings m x) = House_phases m := rfl
theorem Ho_walks_sightings (x : Nat → Int32) : House_walks (House_set_sightings m x) = House_walks m := rfl
theorem Ho_walked_sightings (x : Nat → Int32) : House_walked (House_set_sightings m x) = House_walked m := rfl
theorem Ho_sightings_sightings (x : Nat → Int32) : House_sightings (House_set_sightings m x) = x := rfl
theorem Ho_lastSeen_sightings (x : Nat → Int32) : House_lastSeen (House_set_sightings m x) = House_lastSeen m := rfl
theorem Ho_runs_sightings (x : Nat → Int32) : House_runs (House_set_sightings m x) = House_runs m := rfl
theorem Ho_longestRuns_sightings (x : Nat → Int32) : House_longestRuns (House_set_sightings m x) = House_longestRuns m := rfl
theorem Ho_rooms_lastSeen (x : Nat → Int32) : House_rooms (House_set_lastSeen m x) = House_rooms m := rfl
theorem Ho_doors_lastSeen (x : Nat → Int32) : House_doors (House_set_lastSeen m x) = House_doors m := rfl
theorem Ho_guards_lastSeen (x : Nat → Int32) : House_guards (House_set_lastSeen m x) = House_guards m := rfl
theorem Ho_minute_lastSeen (x : Nat → Int32) : House_minute (House_set_lastSeen m x) = House_minute m := rfl
theorem Ho_openDoors_lastSeen (x : Nat → Int32) : House_openDoors (House_set_lastSeen m x) = House_openDoors m := rfl
theorem Ho_walksStamp_lastSeen (x : Nat → Int32) : House_walksStamp (House_set_lastSeen m x) = House_walksStamp m := rfl
theorem Ho_phasesStamp_lastSeen (x : Nat → Int32) : House_phasesStamp (House_set_lastSeen m x) = House_phasesStamp m := rfl
theorem Ho_doorFirst_lastSeen (x : Nat → Int32) : House_doorFirst (House_set_lastSeen m x) = House_doorFirst m := rfl
theorem Ho_doorSecond_lastSeen (x : Nat → Int32) : House_doorSecond (House_set_lastSeen m x) = House_doorSecond m := rfl
theorem Ho_joined_lastSeen (x : Nat → Int32) : House_joined (House_set_lastSeen m x) = House_joined m := rfl
theorem Ho_limits_lastSeen (x : Nat → Int32) : House_limits (House_set_lastSeen m x) = House_limits m := rfl
theorem Ho_periods_lastSeen (x : Nat → Int32) : House_periods (House_set_lastSeen m x) = House_periods m := rfl
theorem Ho_phases_lastSeen (x : Nat → Int32) : House_phases (House_set_lastSeen m x) = House_phases m := rfl
theorem Ho_walks_lastSeen (x : Nat → Int32) : House_walks (House_set_lastSeen m x) = House_walks m := rfl
theorem Ho_walked_lastSeen (x : Nat → Int32) : House_walked (House_set_lastSeen m x) = House_walked m := rfl
theorem Ho_sightings_lastSeen (x : Nat → Int32) : House_sightings (House_set_lastSeen m x) = House_sightings m := rfl
theorem Ho_lastSeen_lastSeen (x : Nat → Int32) : House_lastSeen (House_set_lastSeen m x) = x := rfl
theorem Ho_runs_lastSeen (x : Nat → Int32) : House_runs (House_set_lastSeen m x) = House_runs m := rfl
theorem Ho_longestRuns_lastSeen (x : Nat → Int32) : House_longestRuns (House_set_lastSeen m x) = House_longestRuns m := rfl
theorem Ho_rooms_runs (x : Nat → Int32) : House_rooms (House_set_runs m x) = House_rooms m := rfl
theorem Ho_doors_runs (x : Nat → Int32) : House_doors (House_set_runs m x) = House_doors m := rfl
theorem Ho_guards_runs (x : Nat → Int32) : House_guards (House_set_runs m x) = House_guards m := rfl
theorem Ho_minute_runs (x : Nat → Int32) : House_minute (House_set_runs m x) = House_minute m := rfl
theorem Ho_openDoors_runs (x : Nat → Int32) : House_openDoors (House_set_runs m x) = House_openDoors m := rfl
theorem Ho_walksStamp_runs (x : Nat → Int32) : House_walksStamp (House_set_runs m x) = House_walksStamp m := rfl
theorem Ho_phasesStamp_runs (x : Nat → Int32) : House_phasesStamp (House_set_runs m x) = House_phasesStamp m := rfl
theorem Ho_doorFirst_runs (x : Nat → Int32) : House_doorFirst (House_set_runs m x) = House_doorFirst m := rfl
theorem Ho_doorSecond_runs (x : Nat → Int32) : House_doorSecond (House_set_runs m x) = House_doorSecond m := rfl
theorem Ho_joined_runs (x : Nat → Int32) : House_joined (House_set_runs m x) = House_joined m := rfl
theorem Ho_limits_runs (x : Nat → Int32) : House_limits (House_set_runs m x) = House_limits m := rfl
theorem Ho_periods_runs (x : Nat → Int32) : House_periods (House_set_runs m x) = House_periods m := rfl
theorem Ho_phases_runs (x : Nat → Int32) : House_phases (House_set_runs m x) = House_phases m := rfl
theorem Ho_walks_runs (x : Nat → Int32) : House_walks (House_set_runs m x) = House_walks m := rfl
theorem Ho_walked_runs (x : Nat → Int32) : House_walked (House_set_runs m x) = House_walked m := rfl
theorem Ho_sightings_runs (x : Nat → Int32) : House_sightings (House_set_runs m x) = House_sightings m := rfl
theorem Ho_lastSeen_runs (x : Nat → Int32) : House_lastSeen (House_set_runs m x) = House_lastSeen m := rfl
theorem Ho_runs_runs (x : Nat → Int32) : House_runs (House_set_runs m x) = x := rfl
theorem Ho_longestRuns_runs (x : Nat → Int32) : House_longestRuns (House_set_runs m x) = House_longestRuns m := rfl
theorem Ho_rooms_longestRuns (x : Nat → Int32) : House_rooms (House_set_longestRuns m x) = House_rooms m := rfl
theorem Ho_doors_longestRuns (x : Nat → Int32) : House_doors (House_set_longestRuns m x) = House_doors m := rfl
theorem Ho_guards_longestRuns (x : Nat → Int32) : House_guards (House_set_longestRuns m x) = House_guards m := rfl
theorem Ho_minute_longestRuns (x : Nat → Int32) : House_minute (House_set_longestRuns m x) = House_minute m := rfl
theorem Ho_openDoors_longestRuns (x : Nat → Int32) : House_openDoors (House_set_longestRuns m x) = House_openDoors m := rfl
theorem Ho_walksStamp_longestRuns (x : Nat → Int32) : House_walksStamp (House_set_longestRuns m x) = House_walksStamp m := rfl
theorem Ho_phasesStamp_longestRuns (x : Nat → Int32) : House_phasesStamp (House_set_longestRuns m x) = House_phasesStamp m := rfl
theorem Ho_doorFirst_longestRuns (x : Nat → Int32) : House_doorFirst (House_set_longestRuns m x) = House_doorFirst m := rfl
theorem Ho_doorSecond_longestRuns (x : Nat → Int32) : House_doorSecond (House_set_longestRuns m x) = House_doorSecond m := rfl
theorem Ho_joined_longestRuns (x : Nat → Int32) : House_joined (House_set_longestRuns m x) = House_joined m := rfl
theorem Ho_limits_longestRuns (x : Nat → Int32) : House_limits (House_set_longestRuns m x) = House_limits m := rfl
theorem Ho_periods_longestRuns (x : Nat → Int32) : House_periods (House_set_longestRuns m x) = House_periods m := rfl
theorem Ho_phases_longestRuns (x : Nat → Int32) : House_phases (House_set_longestRuns m x) = House_phases m := rfl
theorem Ho_walks_longestRuns (x : Nat → Int32) : House_walks (House_set_longestRuns m x) = House_walks m := rfl
theorem Ho_walked_longestRuns (x : Nat → Int32) : House_walked (House_set_longestRuns m x) = House_walked m := rfl
theorem Ho_sightings_longestRuns (x : Nat → Int32) : House_sightings (House_set_longestRuns m x) = House_sightings m := rfl
theorem Ho_lastSeen_longestRuns (x : Nat → Int32) : House_lastSeen (House_set_longestRuns m x) = House_lastSeen m := rfl
theorem Ho_runs_longestRuns (x : Nat → Int32) : House_runs (House_set_longestRuns m x) = House_runs m := rfl
theorem Ho_longestRuns_longestRuns (x : Nat → Int32) : House_longestRuns (House_set_longestRuns m x) = x := rfl
end HFIELDS

