/-! ===== printed by wip/whole/gen.py: answers of methods without loops, as functions ===== -/
def jX0_tellsAheadOf (σ : ps_S) (i0 : Nat) (v1 : Int32) (v2 : Int32) : Int32 := if ((σ 6 i0 v1.toNatClampNeg) &&& (σ 8 i0 v2.toNatClampNeg)) = 0 then 0 else 1
def jX1_heapCount (σ : ps_S) (v1 : Int32) : Int32 := (((σ 33 0 v1.toNatClampNeg) + (σ 30 0 3)) - 1) / (σ 30 0 3)
def jX1_heapEnd (σ : ps_S) (v1 : Int32) (v2 : Int32) : Int32 := jbMin ((v2 + 1) * (σ 30 0 3)) (σ 33 0 v1.toNatClampNeg)
def jX1_kindIn (σ : ps_S) (v1 : Int32) (v2 : Int32) (v3 : Int32) : Int32 := if v2 < (σ 33 0 v1.toNatClampNeg) then (if v3 = 0 then (σ 32 v1.toNatClampNeg (((jX1_heapEnd σ v1 (v2 / (σ 30 0 3))) - 1) - (v2 - ((v2 / (σ 30 0 3)) * (σ 30 0 3)))).toNatClampNeg) else (σ 32 v1.toNatClampNeg v2.toNatClampNeg)) else (-900009)
def jX2_isBest (σ : ps_S) (v1 : Int32) (v2 : Int32) : Int32 := if ¬ ((σ 44 v1.toNatClampNeg v2.toNatClampNeg) + (σ 46 v1.toNatClampNeg v2.toNatClampNeg)) = (σ 36 0 9) then 0 else 1
def jX2_changeOf (σ : ps_S) (v1 : Int32) (v2 : Int32) : Int32 := if ¬ v1 = v2 then (σ 36 0 4) else 0
def jX2_costThrough (σ : ps_S) (v1 : Int32) (v2 : Int32) (v3 : Int32) : Int32 := ((jX2_changeOf σ v2 v3) + (σ 42 ((v1 + 1).toNatClampNeg) v3.toNatClampNeg)) + (σ 46 ((v1 + 1).toNatClampNeg) v3.toNatClampNeg)
def jX3_mayCome (σ : ps_S) (v1 : Int32) (v2 : Int32) : Int32 := if ¬ ((v1 >>> (v2 &&& 31)) &&& 1) = 0 then 0 else (if ¬ ((σ 18 0 v2.toNatClampNeg) &&& (v1 ^^^ (-1))) = 0 then 0 else 1)
def jX3_restThrough (σ : ps_S) (v1 : Int32) (v2 : Int32) (v3 : Int32) : Int32 := if (σ 16 0 (((v1 ||| ((1 : Int32) <<< (v3 &&& 31))) * 9) + v3).toNatClampNeg) = (-1) then (σ 16 0 (((v1 ||| ((1 : Int32) <<< (v3 &&& 31))) * 9) + v3).toNatClampNeg) else (if ¬ v2 = (-900009) then ((σ 16 0 (((v1 ||| ((1 : Int32) <<< (v3 &&& 31))) * 9) + v3).toNatClampNeg) + ((σ 17 0 ((v2 * 9) + v3).toNatClampNeg) * 1048576)) else (σ 16 0 (((v1 ||| ((1 : Int32) <<< (v3 &&& 31))) * 9) + v3).toNatClampNeg))
def jX3_join (σ : ps_S) (v0 : Int32) (v1 : Int32) : Int32 := if v0 = (-1) then (jbMax v0 v1) else (if ¬ v1 = (-1) then (if (v0 / 1048576) = (v1 / 1048576) then (v0 + (v1 - v1 / 1048576 * 1048576)) else (jbMin v0 v1)) else (jbMax v0 v1))
def jX4_hasRoom (σ : ps_S) (v2 : Int32) (v3 : Int32) : Int32 := if (σ 24 0 5) ≤ (jbPop (σ 29 0 v3.toNatClampNeg)) then 0 else (if ¬ ((σ 29 0 v3.toNatClampNeg) &&& (σ 22 0 v2.toNatClampNeg)) = 0 then 0 else 1)
def jX6_isTold (σ : ps_S) (v1 : Int32) : Int32 := if (((σ 19 0 3) >>> (v1 &&& 31)) &&& 1) = 0 then 0 else 1
def jX7_isMan (σ : ps_S) (v1 : Int32) : Int32 := jbWi v1 (σ 36 0 2)
def jX7_isPage (σ : ps_S) (v1 : Int32) : Int32 := jbWi v1 (σ 36 0 3)
def jX8_letterAt (σ : ps_S) (v1 : Int32) (v2 : Int32) (v3 : Int32) : Int32 := σ 51 0 (((54 * v1) + (6 * v2)) + v3).toNatClampNeg
def jX8_isNext (σ : ps_S) (v1 : Int32) (v2 : Int32) (v3 : Int32) : Int32 := if ¬ ((v1 >>> (v3 &&& 31)) &&& 1) = 0 then 0 else (if ¬ ((σ 59 0 v3.toNatClampNeg) &&& (v1 ^^^ (-1))) = 0 then 0 else (if ¬ ((σ 60 0 ((9 * v2) + v3).toNatClampNeg) + (σ 61 0 ((9 * (v1 ||| ((1 : Int32) <<< (v3 &&& 31)))) + v3).toNatClampNeg)) = (σ 61 0 ((9 * v1) + v2).toNatClampNeg) then 0 else 1))
def jX8_heaps (σ : ps_S) (v1 : Int32) : Int32 := (((σ 68 0 v1.toNatClampNeg) + (σ 50 0 20)) - 1) / (σ 50 0 20)
def jX8_heapEnd (σ : ps_S) (v1 : Int32) (v2 : Int32) : Int32 := if (σ 68 0 v1.toNatClampNeg) ≤ ((v2 * (σ 50 0 20)) + (σ 50 0 20)) then (σ 68 0 v1.toNatClampNeg) else ((v2 * (σ 50 0 20)) + (σ 50 0 20))
def jX8_kindIn (σ : ps_S) (v1 : Int32) (v2 : Int32) (v3 : Int32) : Int32 := if v3 = 0 then (σ 69 0 ((12 * v1) + (((((v2 / (σ 50 0 20)) * (σ 50 0 20)) + (jX8_heapEnd σ v1 (v2 / (σ 50 0 20)))) - 1) - v2)).toNatClampNeg) else (σ 69 0 ((12 * v1) + v2).toNatClampNeg)
def jX8_isMan (σ : ps_S) (v1 : Int32) : Int32 := jbIn v1.toInt64 0 (((σ 50 0 21) - 1).toInt64)
def jX8_isPage (σ : ps_S) (v1 : Int32) : Int32 := jbIn v1.toInt64 0 (((σ 50 0 22) - 1).toInt64)
