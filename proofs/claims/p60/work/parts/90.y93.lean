/-! the reference: segments that differ are written -/
/-- how many of some segments differ from what was written -/
def dfN (sg : Nat → List Dc) (lv wr : Nat → Nat → Bool) (l : List Nat) : Nat := sumL (fun n => if (!allB (fun j => lv n j == wr n j) (sg n).length) = true then 1 else 0) l
