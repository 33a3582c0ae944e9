def yctl : List (List (Option yH)) := [[some (.inr (1, 16)), some (.inr (0, 16))],
  [some (.inl 3), none, none, none, none, none, none, none, none, none, none, none, none],
  [none, none, some (.inr (0, 40))],
  [none, some (.inr (0, 160))],
  [none, none, none, some (.inr (0, 5)), some (.inr (0, 7)), some (.inr (0, 7)), none, some (.inr (0, 7)), some (.inr (0, 7)), some (.inr (0, 7)), some (.inr (0, 35)), some (.inl 5), some (.inl 5), some (.inl 6), none, none, none, none],
  [none, some (.inr (0, 10)), some (.inr (0, 10)), some (.inr (0, 10)), some (.inr (0, 10))],
  [none, some (.inr (0, 4)), some (.inr (0, 4))],
  [some (.inl 4), some (.inl 4), some (.inr (2, 2)), some (.inl 1), some (.inl 3), some (.inl 0), some (.inr (3, 4)), none, none],
  [some (.inr (0, 393)), some (.inr (0, 131)), some (.inr (1, 2)), none, none, none, some (.inr (0, 5)), some (.inr (0, 131)), none, none, none, none, some (.inr (0, 5)), some (.inr (0, 3)), none, none, some (.inr (0, 160)), none, none, none, none, none, none, none, some (.inr (0, 40)), none, none, some (.inr (0, 700)), some (.inr (0, 11216)), some (.inr (0, 4)), some (.inr (0, 4)), some (.inr (0, 160)), none]]
def yfxl : List (Nat × Bool × Nat) := [(0, true, 1), (1, true, 2), (100, false, 3), (202, true, 1), (301, true, 1), (403, true, 1), (404, true, 2), (405, true, 3), (407, true, 4), (408, true, 5), (409, true, 6), (410, true, 7), (413, true, 18), (501, true, 1), (502, true, 2), (503, true, 3), (504, true, 4), (601, true, 1), (602, true, 2), (700, false, 17), (701, false, 38), (702, false, 1), (703, false, 2), (704, false, 3), (705, false, 5), (706, false, 8), (800, false, 1), (801, false, 2), (802, false, 3), (806, false, 4), (807, false, 5), (812, false, 6), (813, false, 7), (816, false, 8), (824, false, 9), (827, false, 10), (828, false, 11), (829, false, 12), (830, false, 13), (831, false, 14)]
def yfx (ci i k : Nat) : Option Nat := match zlk yfxl (100 * ci + k) with
  | some q => some (bif q.1 then i + q.2 else q.2)
  | none => none
def yct : yCt := (fun ci => (yctl[ci]?).getD [], yfx)
