theorem rNumL_s (n d : Nat) (S : St) (v : Int32) : rNumL (n + 1) d S v = if rIn (rHere S) 48 57 = true then rNumL n (d + 1) (rAdv S) (10 * v + rHere S - 48) else (d, S, v) := rfl
