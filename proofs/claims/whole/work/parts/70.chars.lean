/-! characters. Written by wip/prog/gen_pred.py -/
def bI (b : Bool) : Int32 := if b then 1 else 0
def isLe (c : Int32) : Bool := (decide (65 ≤ c) && decide (c ≤ 90)) || (decide (97 ≤ c) && decide (c ≤ 122))
def isDi (c : Int32) : Bool := decide (48 ≤ c) && decide (c ≤ 57)
def isBl (c : Int32) : Bool := decide (c = 9) || decide (c = 10) || decide (c = 13) || decide (c = 32)
