/-- the class's world: the desk, its tape, leafLengths, ids, the digest, its message, schedule, state -/
abbrev wk (q : Nat → Nat) (cB cI : ClassId) (tl lv lb ln : Nat) (tp : Nat → Int32) (ll : Nat → Nat) (id ms sc st : Nat → Int32) : va_W :=
  [(q 0, .inr (1, [.ref (q 1), .int (nI tl), .ref (q 2), .int (nI lv), .int (nI lb), .ref (q 3), .ref (q 4)])), (q 1, .inl (cB, 150, .inl tp)), (q 2, .inl (cI, 100, .inl (fun j => nI (ll j)))), (q 3, .inl (cI, 1624, .inl id)), (q 4, .inr (0, [.ref (q 5), .ref (q 6), .ref (q 7), .int (nI ln)])), (q 5, .inl (cB, 192, .inl ms)), (q 6, .inl (cI, 64, .inl sc)), (q 7, .inl (cI, 8, .inl st))]
/-- its static tables -/
abbrev zk (q : Nat → Nat) : List zT := [("RootDesk", "LEVEL_START", q 8, 8, fun j => nI (lsv j)), ("RootDesk$Digest", "FIRST_STATE", q 9, 8, fsv), ("RootDesk$Digest", "ROUND_WORDS", q 10, 64, rwv)]
