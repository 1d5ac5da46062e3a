/-! the reference, 2 -/
noncomputable def gX12_post (b0 : Nat) : Nat → Nat → Int32 → Int32 → Int32 → Int32 → Int32 → Int32 → Int32 → Int32 → Int32 → Int32 → ea_H → Option (Int32 × ea_H)
  | 0, _, _, _, _, _, _, _, _, _, _, _, _ => none
  | f + 1, lbl, sx0, sx1, x1, x2, x3, x4, x5, x6, x7, x8, h =>
    if lbl = 0 then (if (vX12_isIn (x1 : Int32) (0 : Int32) (4 : Int32) h) = (0 : Int32) then (some (((-1) : Int32), h)) else (if (vX12_isTown b0 (x2 : Int32) h) = (0 : Int32) then (some (((-1) : Int32), h)) else (if (vX12_isTown b0 (x3 : Int32) h) = (0 : Int32) then (some (((-1) : Int32), h)) else (if x2 = x3 then (some (((-1) : Int32), h)) else (if (vX12_isIn (x4 : Int32) (1 : Int32) (9 : Int32) h) = (0 : Int32) then (some (((-1) : Int32), h)) else (if (vX12_isIn (x5 : Int32) (0 : Int32) (99 : Int32) h) = (0 : Int32) then (some (((-1) : Int32), h)) else (if (vX12_isIn (x6 : Int32) (0 : Int32) (9 : Int32) h) = (0 : Int32) then (some (((-1) : Int32), h)) else (if (ea_i h (b0 + 0) 63) = (120 : Int32) then (some (((-1) : Int32), h)) else (gd (vp_in (ea_i h (b0 + 0) 63) 120) (gd (vp_in (ea_i h (b0 + 0) 63) 120) (gd (vp_in (ea_i h (b0 + 0) 63) 120) (gd (vp_in (ea_i h (b0 + 0) 63) 120) (gd (vp_in (ea_i h (b0 + 0) 63) 120) (gd (vp_in (ea_i h (b0 + 0) 63) 120) (gd (vp_in (ea_i h (b0 + 0) 63) 120) (gd ((okX12_milesOf b0 (x2 : Int32) (x3 : Int32) (0 : Int32) (ea_wi (ea_wi (ea_wi (ea_wi (ea_wi (ea_wi (ea_wi (ea_wi h (b0 + 0) 63 ((ea_i h (b0 + 0) 63) + (1 : Int32))) (b0 + 38) (Int32.toNatClampNeg (ea_i h (b0 + 0) 63)) x1) (b0 + 39) (Int32.toNatClampNeg (ea_i h (b0 + 0) 63)) x2) (b0 + 40) (Int32.toNatClampNeg (ea_i h (b0 + 0) 63)) x3) (b0 + 41) (Int32.toNatClampNeg (ea_i h (b0 + 0) 63)) x4) (b0 + 42) (Int32.toNatClampNeg (ea_i h (b0 + 0) 63)) x5) (b0 + 43) (Int32.toNatClampNeg (ea_i h (b0 + 0) 63)) x6) (b0 + 44) (Int32.toNatClampNeg (ea_i h (b0 + 0) 63)) (ea_i (ea_wi (ea_wi (ea_wi (ea_wi (ea_wi (ea_wi (ea_wi h (b0 + 0) 63 ((ea_i h (b0 + 0) 63) + (1 : Int32))) (b0 + 38) (Int32.toNatClampNeg (ea_i h (b0 + 0) 63)) x1) (b0 + 39) (Int32.toNatClampNeg (ea_i h (b0 + 0) 63)) x2) (b0 + 40) (Int32.toNatClampNeg (ea_i h (b0 + 0) 63)) x3) (b0 + 41) (Int32.toNatClampNeg (ea_i h (b0 + 0) 63)) x4) (b0 + 42) (Int32.toNatClampNeg (ea_i h (b0 + 0) 63)) x5) (b0 + 43) (Int32.toNatClampNeg (ea_i h (b0 + 0) 63)) x6) (b0 + 0) 0)))) (gd (vp_in (ea_i h (b0 + 0) 63) 120) (gd ((okX12_isCross b0 (x2 : Int32) (x3 : Int32) (ea_wi (wX12_milesOf b0 (x2 : Int32) (x3 : Int32) (0 : Int32) (ea_wi (ea_wi (ea_wi (ea_wi (ea_wi (ea_wi (ea_wi (ea_wi h (b0 + 0) 63 ((ea_i h (b0 + 0) 63) + (1 : Int32))) (b0 + 38) (Int32.toNatClampNeg (ea_i h (b0 + 0) 63)) x1) (b0 + 39) (Int32.toNatClampNeg (ea_i h (b0 + 0) 63)) x2) (b0 + 40) (Int32.toNatClampNeg (ea_i h (b0 + 0) 63)) x3) (b0 + 41) (Int32.toNatClampNeg (ea_i h (b0 + 0) 63)) x4) (b0 + 42) (Int32.toNatClampNeg (ea_i h (b0 + 0) 63)) x5) (b0 + 43) (Int32.toNatClampNeg (ea_i h (b0 + 0) 63)) x6) (b0 + 44) (Int32.toNatClampNeg (ea_i h (b0 + 0) 63)) (ea_i (ea_wi (ea_wi (ea_wi (ea_wi (ea_wi (ea_wi (ea_wi h (b0 + 0) 63 ((ea_i h (b0 + 0) 63) + (1 : Int32))) (b0 + 38) (Int32.toNatClampNeg (ea_i h (b0 + 0) 63)) x1) (b0 + 39) (Int32.toNatClampNeg (ea_i h (b0 + 0) 63)) x2) (b0 + 40) (Int32.toNatClampNeg (ea_i h (b0 + 0) 63)) x3) (b0 + 41) (Int32.toNatClampNeg (ea_i h (b0 + 0) 63)) x4) (b0 + 42) (Int32.toNatClampNeg (ea_i h (b0 + 0) 63)) x5) (b0 + 43) (Int32.toNatClampNeg (ea_i h (b0 + 0) 63)) x6) (b0 + 0) 0))) (b0 + 45) (Int32.toNatClampNeg (ea_i h (b0 + 0) 63)) (vX12_milesOf b0 (x2 : Int32) (x3 : Int32) (0 : Int32) (ea_wi (ea_wi (ea_wi (ea_wi (ea_wi (ea_wi (ea_wi (ea_wi h (b0 + 0) 63 ((ea_i h (b0 + 0) 63) + (1 : Int32))) (b0 + 38) (Int32.toNatClampNeg (ea_i h (b0 + 0) 63)) x1) (b0 + 39) (Int32.toNatClampNeg (ea_i h (b0 + 0) 63)) x2) (b0 + 40) (Int32.toNatClampNeg (ea_i h (b0 + 0) 63)) x3) (b0 + 41) (Int32.toNatClampNeg (ea_i h (b0 + 0) 63)) x4) (b0 + 42) (Int32.toNatClampNeg (ea_i h (b0 + 0) 63)) x5) (b0 + 43) (Int32.toNatClampNeg (ea_i h (b0 + 0) 63)) x6) (b0 + 44) (Int32.toNatClampNeg (ea_i h (b0 + 0) 63)) (ea_i (ea_wi (ea_wi (ea_wi (ea_wi (ea_wi (ea_wi (ea_wi h (b0 + 0) 63 ((ea_i h (b0 + 0) 63) + (1 : Int32))) (b0 + 38) (Int32.toNatClampNeg (ea_i h (b0 + 0) 63)) x1) (b0 + 39) (Int32.toNatClampNeg (ea_i h (b0 + 0) 63)) x2) (b0 + 40) (Int32.toNatClampNeg (ea_i h (b0 + 0) 63)) x3) (b0 + 41) (Int32.toNatClampNeg (ea_i h (b0 + 0) 63)) x4) (b0 + 42) (Int32.toNatClampNeg (ea_i h (b0 + 0) 63)) x5) (b0 + 43) (Int32.toNatClampNeg (ea_i h (b0 + 0) 63)) x6) (b0 + 0) 0)))))) (gd (vp_in (ea_i h (b0 + 0) 63) 120) (gd (((vX12_isCross b0 (x2 : Int32) (x3 : Int32) (ea_wi (wX12_milesOf b0 (x2 : Int32) (x3 : Int32) (0 : Int32) (ea_wi (ea_wi (ea_wi (ea_wi (ea_wi (ea_wi (ea_wi (ea_wi h (b0 + 0) 63 ((ea_i h (b0 + 0) 63) + (1 : Int32))) (b0 + 38) (Int32.toNatClampNeg (ea_i h (b0 + 0) 63)) x1) (b0 + 39) (Int32.toNatClampNeg (ea_i h (b0 + 0) 63)) x2) (b0 + 40) (Int32.toNatClampNeg (ea_i h (b0 + 0) 63)) x3) (b0 + 41) (Int32.toNatClampNeg (ea_i h (b0 + 0) 63)) x4) (b0 + 42) (Int32.toNatClampNeg (ea_i h (b0 + 0) 63)) x5) (b0 + 43) (Int32.toNatClampNeg (ea_i h (b0 + 0) 63)) x6) (b0 + 44) (Int32.toNatClampNeg (ea_i h (b0 + 0) 63)) (ea_i (ea_wi (ea_wi (ea_wi (ea_wi (ea_wi (ea_wi (ea_wi h (b0 + 0) 63 ((ea_i h (b0 + 0) 63) + (1 : Int32))) (b0 + 38) (Int32.toNatClampNeg (ea_i h (b0 + 0) 63)) x1) (b0 + 39) (Int32.toNatClampNeg (ea_i h (b0 + 0) 63)) x2) (b0 + 40) (Int32.toNatClampNeg (ea_i h (b0 + 0) 63)) x3) (b0 + 41) (Int32.toNatClampNeg (ea_i h (b0 + 0) 63)) x4) (b0 + 42) (Int32.toNatClampNeg (ea_i h (b0 + 0) 63)) x5) (b0 + 43) (Int32.toNatClampNeg (ea_i h (b0 + 0) 63)) x6) (b0 + 0) 0))) (b0 + 45) (Int32.toNatClampNeg (ea_i h (b0 + 0) 63)) (vX12_milesOf b0 (x2 : Int32) (x3 : Int32) (0 : Int32) (ea_wi (ea_wi (ea_wi (ea_wi (ea_wi (ea_wi (ea_wi (ea_wi h (b0 + 0) 63 ((ea_i h (b0 + 0) 63) + (1 : Int32))) (b0 + 38) (Int32.toNatClampNeg (ea_i h (b0 + 0) 63)) x1) (b0 + 39) (Int32.toNatClampNeg (ea_i h (b0 + 0) 63)) x2) (b0 + 40) (Int32.toNatClampNeg (ea_i h (b0 + 0) 63)) x3) (b0 + 41) (Int32.toNatClampNeg (ea_i h (b0 + 0) 63)) x4) (b0 + 42) (Int32.toNatClampNeg (ea_i h (b0 + 0) 63)) x5) (b0 + 43) (Int32.toNatClampNeg (ea_i h (b0 + 0) 63)) x6) (b0 + 44) (Int32.toNatClampNeg (ea_i h (b0 + 0) 63)) (ea_i (ea_wi (ea_wi (ea_wi (ea_wi (ea_wi (ea_wi (ea_wi h (b0 + 0) 63 ((ea_i h (b0 + 0) 63) + (1 : Int32))) (b0 + 38) (Int32.toNatClampNeg (ea_i h (b0 + 0) 63)) x1) (b0 + 39) (Int32.toNatClampNeg (ea_i h (b0 + 0) 63)) x2) (b0 + 40) (Int32.toNatClampNeg (ea_i h (b0 + 0) 63)) x3) (b0 + 41) (Int32.toNatClampNeg (ea_i h (b0 + 0) 63)) x4) (b0 + 42) (Int32.toNatClampNeg (ea_i h (b0 + 0) 63)) x5) (b0 + 43) (Int32.toNatClampNeg (ea_i h (b0 + 0) 63)) x6) (b0 + 0) 0))))) = 0 ∨ (vX12_isCross b0 (x2 : Int32) (x3 : Int32) (ea_wi (wX12_milesOf b0 (x2 : Int32) (x3 : Int32) (0 : Int32) (ea_wi (ea_wi (ea_wi (ea_wi (ea_wi (ea_wi (ea_wi (ea_wi h (b0 + 0) 63 ((ea_i h (b0 + 0) 63) + (1 : Int32))) (b0 + 38) (Int32.toNatClampNeg (ea_i h (b0 + 0) 63)) x1) (b0 + 39) (Int32.toNatClampNeg (ea_i h (b0 + 0) 63)) x2) (b0 + 40) (Int32.toNatClampNeg (ea_i h (b0 + 0) 63)) x3) (b0 + 41) (Int32.toNatClampNeg (ea_i h (b0 + 0) 63)) x4) (b0 + 42) (Int32.toNatClampNeg (ea_i h (b0 + 0) 63)) x5) (b0 + 43) (Int32.toNatClampNeg (ea_i h (b0 + 0) 63)) x6) (b0 + 44) (Int32.toNatClampNeg (ea_i h (b0 + 0) 63)) (ea_i (ea_wi (ea_wi (ea_wi (ea_wi (ea_wi (ea_wi (ea_wi h (b0 + 0) 63 ((ea_i h (b0 + 0) 63) + (1 : Int32))) (b0 + 38) (Int32.toNatClampNeg (ea_i h (b0 + 0) 63)) x1) (b0 + 39) (Int32.toNatClampNeg (ea_i h (b0 + 0) 63)) x2) (b0 + 40) (Int32.toNatClampNeg (ea_i h (b0 + 0) 63)) x3) (b0 + 41) (Int32.toNatClampNeg (ea_i h (b0 + 0) 63)) x4) (b0 + 42) (Int32.toNatClampNeg (ea_i h (b0 + 0) 63)) x5) (b0 + 43) (Int32.toNatClampNeg (ea_i h (b0 + 0) 63)) x6) (b0 + 0) 0))) (b0 + 45) (Int32.toNatClampNeg (ea_i h (b0 + 0) 63)) (vX12_milesOf b0 (x2 : Int32) (x3 : Int32) (0 : Int32) (ea_wi (ea_wi (ea_wi (ea_wi (ea_wi (ea_wi (ea_wi (ea_wi h (b0 + 0) 63 ((ea_i h (b0 + 0) 63) + (1 : Int32))) (b0 + 38) (Int32.toNatClampNeg (ea_i h (b0 + 0) 63)) x1) (b0 + 39) (Int32.toNatClampNeg (ea_i h (b0 + 0) 63)) x2) (b0 + 40) (Int32.toNatClampNeg (ea_i h (b0 + 0) 63)) x3) (b0 + 41) (Int32.toNatClampNeg (ea_i h (b0 + 0) 63)) x4) (b0 + 42) (Int32.toNatClampNeg (ea_i h (b0 + 0) 63)) x5) (b0 + 43) (Int32.toNatClampNeg (ea_i h (b0 + 0) 63)) x6) (b0 + 44) (Int32.toNatClampNeg (ea_i h (b0 + 0) 63)) (ea_i (ea_wi (ea_wi (ea_wi (ea_wi (ea_wi (ea_wi (ea_wi h (b0 + 0) 63 ((ea_i h (b0 + 0) 63) + (1 : Int32))) (b0 + 38) (Int32.toNatClampNeg (ea_i h (b0 + 0) 63)) x1) (b0 + 39) (Int32.toNatClampNeg (ea_i h (b0 + 0) 63)) x2) (b0 + 40) (Int32.toNatClampNeg (ea_i h (b0 + 0) 63)) x3) (b0 + 41) (Int32.toNatClampNeg (ea_i h (b0 + 0) 63)) x4) (b0 + 42) (Int32.toNatClampNeg (ea_i h (b0 + 0) 63)) x5) (b0 + 43) (Int32.toNatClampNeg (ea_i h (b0 + 0) 63)) x6) (b0 + 0) 0))))) = 1)) (gd (vp_in (ea_i h (b0 + 0) 63) 120) (gX12_post b0 f 190 0 0 0 (x2 : Int32) 0 0 0 (x6 : Int32) ((ea_i h (b0 + 0) 63) : Int32) (0 : Int32) (ea_wi (ea_wi (wX12_isCross b0 (x2 : Int32) (x3 : Int32) (ea_wi (wX12_milesOf b0 (x2 : Int32) (x3 : Int32) (0 : Int32) (ea_wi (ea_wi (ea_wi (ea_wi (ea_wi (ea_wi (ea_wi (ea_wi h (b0 + 0) 63 ((ea_i h (b0 + 0) 63) + (1 : Int32))) (b0 + 38) (Int32.toNatClampNeg (ea_i h (b0 + 0) 63)) x1) (b0 + 39) (Int32.toNatClampNeg (ea_i h (b0 + 0) 63)) x2) (b0 + 40) (Int32.toNatClampNeg (ea_i h (b0 + 0) 63)) x3) (b0 + 41) (Int32.toNatClampNeg (ea_i h (b0 + 0) 63)) x4) (b0 + 42) (Int32.toNatClampNeg (ea_i h (b0 + 0) 63)) x5) (b0 + 43) (Int32.toNatClampNeg (ea_i h (b0 + 0) 63)) x6) (b0 + 44) (Int32.toNatClampNeg (ea_i h (b0 + 0) 63)) (ea_i (ea_wi (ea_wi (ea_wi (ea_wi (ea_wi (ea_wi (ea_wi h (b0 + 0) 63 ((ea_i h (b0 + 0) 63) + (1 : Int32))) (b0 + 38) (Int32.toNatClampNeg (ea_i h (b0 + 0) 63)) x1) (b0 + 39) (Int32.toNatClampNeg (ea_i h (b0 + 0) 63)) x2) (b0 + 40) (Int32.toNatClampNeg (ea_i h (b0 + 0) 63)) x3) (b0 + 41) (Int32.toNatClampNeg (ea_i h (b0 + 0) 63)) x4) (b0 + 42) (Int32.toNatClampNeg (ea_i h (b0 + 0) 63)) x5) (b0 + 43) (Int32.toNatClampNeg (ea_i h (b0 + 0) 63)) x6) (b0 + 0) 0))) (b0 + 45) (Int32.toNatClampNeg (ea_i h (b0 + 0) 63)) (vX12_milesOf b0 (x2 : Int32) (x3 : Int32) (0 : Int32) (ea_wi (ea_wi (ea_wi (ea_wi (ea_wi (ea_wi (ea_wi (ea_wi h (b0 + 0) 63 ((ea_i h (b0 + 0) 63) + (1 : Int32))) (b0 + 38) (Int32.toNatClampNeg (ea_i h (b0 + 0) 63)) x1) (b0 + 39) (Int32.toNatClampNeg (ea_i h (b0 + 0) 63)) x2) (b0 + 40) (Int32.toNatClampNeg (ea_i h (b0 + 0) 63)) x3) (b0 + 41) (Int32.toNatClampNeg (ea_i h (b0 + 0) 63)) x4) (b0 + 42) (Int32.toNatClampNeg (ea_i h (b0 + 0) 63)) x5) (b0 + 43) (Int32.toNatClampNeg (ea_i h (b0 + 0) 63)) x6) (b0 + 44) (Int32.toNatClampNeg (ea_i h (b0 + 0) 63)) (ea_i (ea_wi (ea_wi (ea_wi (ea_wi (ea_wi (ea_wi (ea_wi h (b0 + 0) 63 ((ea_i h (b0 + 0) 63) + (1 : Int32))) (b0 + 38) (Int32.toNatClampNeg (ea_i h (b0 + 0) 63)) x1) (b0 + 39) (Int32.toNatClampNeg (ea_i h (b0 + 0) 63)) x2) (b0 + 40) (Int32.toNatClampNeg (ea_i h (b0 + 0) 63)) x3) (b0 + 41) (Int32.toNatClampNeg (ea_i h (b0 + 0) 63)) x4) (b0 + 42) (Int32.toNatClampNeg (ea_i h (b0 + 0) 63)) x5) (b0 + 43) (Int32.toNatClampNeg (ea_i h (b0 + 0) 63)) x6) (b0 + 0) 0))))) (b0 + 52) (Int32.toNatClampNeg (ea_i h (b0 + 0) 63)) (vX12_isCross b0 (x2 : Int32) (x3 : Int32) (ea_wi (wX12_milesOf b0 (x2 : Int32) (x3 : Int32) (0 : Int32) (ea_wi (ea_wi (ea_wi (ea_wi (ea_wi (ea_wi (ea_wi (ea_wi h (b0 + 0) 63 ((ea_i h (b0 + 0) 63) + (1 : Int32))) (b0 + 38) (Int32.toNatClampNeg (ea_i h (b0 + 0) 63)) x1) (b0 + 39) (Int32.toNatClampNeg (ea_i h (b0 + 0) 63)) x2) (b0 + 40) (Int32.toNatClampNeg (ea_i h (b0 + 0) 63)) x3) (b0 + 41) (Int32.toNatClampNeg (ea_i h (b0 + 0) 63)) x4) (b0 + 42) (Int32.toNatClampNeg (ea_i h (b0 + 0) 63)) x5) (b0 + 43) (Int32.toNatClampNeg (ea_i h (b0 + 0) 63)) x6) (b0 + 44) (Int32.toNatClampNeg (ea_i h (b0 + 0) 63)) (ea_i (ea_wi (ea_wi (ea_wi (ea_wi (ea_wi (ea_wi (ea_wi h (b0 + 0) 63 ((ea_i h (b0 + 0) 63) + (1 : Int32))) (b0 + 38) (Int32.toNatClampNeg (ea_i h (b0 + 0) 63)) x1) (b0 + 39) (Int32.toNatClampNeg (ea_i h (b0 + 0) 63)) x2) (b0 + 40) (Int32.toNatClampNeg (ea_i h (b0 + 0) 63)) x3) (b0 + 41) (Int32.toNatClampNeg (ea_i h (b0 + 0) 63)) x4) (b0 + 42) (Int32.toNatClampNeg (ea_i h (b0 + 0) 63)) x5) (b0 + 43) (Int32.toNatClampNeg (ea_i h (b0 + 0) 63)) x6) (b0 + 0) 0))) (b0 + 45) (Int32.toNatClampNeg (ea_i h (b0 + 0) 63)) (vX12_milesOf b0 (x2 : Int32) (x3 : Int32) (0 : Int32) (ea_wi (ea_wi (ea_wi (ea_wi (ea_wi (ea_wi (ea_wi (ea_wi h (b0 + 0) 63 ((ea_i h (b0 + 0) 63) + (1 : Int32))) (b0 + 38) (Int32.toNatClampNeg (ea_i h (b0 + 0) 63)) x1) (b0 + 39) (Int32.toNatClampNeg (ea_i h (b0 + 0) 63)) x2) (b0 + 40) (Int32.toNatClampNeg (ea_i h (b0 + 0) 63)) x3) (b0 + 41) (Int32.toNatClampNeg (ea_i h (b0 + 0) 63)) x4) (b0 + 42) (Int32.toNatClampNeg (ea_i h (b0 + 0) 63)) x5) (b0 + 43) (Int32.toNatClampNeg (ea_i h (b0 + 0) 63)) x6) (b0 + 44) (Int32.toNatClampNeg (ea_i h (b0 + 0) 63)) (ea_i (ea_wi (ea_wi (ea_wi (ea_wi (ea_wi (ea_wi (ea_wi h (b0 + 0) 63 ((ea_i h (b0 + 0) 63) + (1 : Int32))) (b0 + 38) (Int32.toNatClampNeg (ea_i h (b0 + 0) 63)) x1) (b0 + 39) (Int32.toNatClampNeg (ea_i h (b0 + 0) 63)) x2) (b0 + 40) (Int32.toNatClampNeg (ea_i h (b0 + 0) 63)) x3) (b0 + 41) (Int32.toNatClampNeg (ea_i h (b0 + 0) 63)) x4) (b0 + 42) (Int32.toNatClampNeg (ea_i h (b0 + 0) 63)) x5) (b0 + 43) (Int32.toNatClampNeg (ea_i h (b0 + 0) 63)) x6) (b0 + 0) 0)))))) (b0 + 46) (Int32.toNatClampNeg (ea_i h (b0 + 0) 63)) 0))))))))))))))))))))))) else
    if lbl = 190 then (if x7 < x8 then (gd ((okX12_actOn b0 (((ea_i h (b0 + 0) 0) / (1440 : Int32)) : Int32) h)) (gd (vp_in x7 120) (gd (vp_in x7 120) (if (ea_i (ea_wi (wX12_actOn b0 (((ea_i h (b0 + 0) 0) / (1440 : Int32)) : Int32) h) (b0 + 47) (Int32.toNatClampNeg x7) (vX12_actOn b0 (((ea_i h (b0 + 0) 0) / (1440 : Int32)) : Int32) h)) (b0 + 47) (Int32.toNatClampNeg x7)) = ((-1) : Int32) then (gX12_post b0 f 320 (0 : Int32) (x7 : Int32) 0 (x2 : Int32) 0 0 0 0 (x7 : Int32) 0 (ea_wi (wX12_actOn b0 (((ea_i h (b0 + 0) 0) / (1440 : Int32)) : Int32) h) (b0 + 47) (Int32.toNatClampNeg x7) (vX12_actOn b0 (((ea_i h (b0 + 0) 0) / (1440 : Int32)) : Int32) h))) else (gd (vp_in x7 120) (gd ((okX12_isFree b0 (x7 : Int32) ((ea_i (ea_wi (wX12_actOn b0 (((ea_i h (b0 + 0) 0) / (1440 : Int32)) : Int32) h) (b0 + 47) (Int32.toNatClampNeg x7) (vX12_actOn b0 (((ea_i h (b0 + 0) 0) / (1440 : Int32)) : Int32) h)) (b0 + 47) (Int32.toNatClampNeg x7)) : Int32) (ea_wi (wX12_actOn b0 (((ea_i h (b0 + 0) 0) / (1440 : Int32)) : Int32) h) (b0 + 47) (Int32.toNatClampNeg x7) (vX12_actOn b0 (((ea_i h (b0 + 0) 0) / (1440 : Int32)) : Int32) h)))) (if (vX12_isFree b0 (x7 : Int32) ((ea_i (ea_wi (wX12_actOn b0 (((ea_i h (b0 + 0) 0) / (1440 : Int32)) : Int32) h) (b0 + 47) (Int32.toNatClampNeg x7) (vX12_actOn b0 (((ea_i h (b0 + 0) 0) / (1440 : Int32)) : Int32) h)) (b0 + 47) (Int32.toNatClampNeg x7)) : Int32) (ea_wi (wX12_actOn b0 (((ea_i h (b0 + 0) 0) / (1440 : Int32)) : Int32) h) (b0 + 47) (Int32.toNatClampNeg x7) (vX12_actOn b0 (((ea_i h (b0 + 0) 0) / (1440 : Int32)) : Int32) h))) = (0 : Int32) then (gX12_post b0 f 320 (0 : Int32) (x7 : Int32) 0 (x2 : Int32) 0 0 0 0 (x7 : Int32) 0 (ea_wi (wX12_actOn b0 (((ea_i h (b0 + 0) 0) / (1440 : Int32)) : Int32) h) (b0 + 47) (Int32.toNatClampNeg x7) (vX12_actOn b0 (((ea_i h (b0 + 0) 0) / (1440 : Int32)) : Int32) h))) else (gX12_post b0 f 320 (1 : Int32) (x7 : Int32) 0 (x2 : Int32) 0 0 0 0 (x7 : Int32) 0 (ea_wi (wX12_actOn b0 (((ea_i h (b0 + 0) 0) / (1440 : Int32)) : Int32) h) (b0 + 47) (Int32.toNatClampNeg x7) (vX12_actOn b0 (((ea_i h (b0 + 0) 0) / (1440 : Int32)) : Int32) h)))))))))) else (gd (vp_in x7 120) (gd (vp_in x8 120) (if (ea_i h (b0 + 38) (Int32.toNatClampNeg x8)) = (2 : Int32) then (gd (vp_in x8 120) (if (ea_i h (b0 + 43) (Int32.toNatClampNeg x8)) = x6 then (gd (vp_in x8 120) (if ((ea_i h (b0 + 44) (Int32.toNatClampNeg x8)) / (1440 : Int32)) = ((ea_i h (b0 + 0) 0) / (1440 : Int32)) then (gd (vp_in x7 120) (gX12_post b0 f 190 0 0 0 (x2 : Int32) 0 0 0 (x6 : Int32) (x7 : Int32) ((x8 + (1 : Int32)) : Int32) (ea_wi h (b0 + 46) (Int32.toNatClampNeg x7) ((ea_i h (b0 + 46) (Int32.toNatClampNeg x7)) + (1 : Int32))))) else (gd (vp_in x7 120) (gX12_post b0 f 190 0 0 0 (x2 : Int32) 0 0 0 (x6 : Int32) (x7 : Int32) ((x8 + (1 : Int32)) : Int32) (ea_wi h (b0 + 46) (Int32.toNatClampNeg x7) ((ea_i h (b0 + 46) (Int32.toNatClampNeg x7)) + (0 : Int32))))))) else (gd (vp_in x7 120) (gX12_post b0 f 190 0 0 0 (x2 : Int32) 0 0 0 (x6 : Int32) (x7 : Int32) ((x8 + (1 : Int32)) : Int32) (ea_wi h (b0 + 46) (Int32.toNatClampNeg x7) ((ea_i h (b0 + 46) (Int32.toNatClampNeg x7)) + (0 : Int32))))))) else (gd (vp_in x7 120) (gX12_post b0 f 190 0 0 0 (x2 : Int32) 0 0 0 (x6 : Int32) (x7 : Int32) ((x8 + (1 : Int32)) : Int32) (ea_wi h (b0 + 46) (Int32.toNatClampNeg x7) ((ea_i h (b0 + 46) (Int32.toNatClampNeg x7)) + (0 : Int32))))))))) else
    if lbl = 320 then (gd (vp_in sx1 120) (gd ((sx0 = 0 ∨ sx0 = 1)) (gd (vp_in x7 120) (if (ea_i (ea_wi h (b0 + 53) (Int32.toNatClampNeg sx1) sx0) (b0 + 47) (Int32.toNatClampNeg x7)) = ((-1) : Int32) then (gX12_post b0 f 355 (0 : Int32) (x7 : Int32) 0 (x2 : Int32) 0 0 0 0 (x7 : Int32) 0 (ea_wi h (b0 + 53) (Int32.toNatClampNeg sx1) sx0)) else (gd (vp_in x7 120) (gd ((okX12_chargeBy b0 (x7 : Int32) ((ea_i (ea_wi h (b0 + 53) (Int32.toNatClampNeg sx1) sx0) (b0 + 47) (Int32.toNatClampNeg x7)) : Int32) (ea_wi h (b0 + 53) (Int32.toNatClampNeg sx1) sx0))) (gX12_post b0 f 355 ((vX12_chargeBy b0 (x7 : Int32) ((ea_i (ea_wi h (b0 + 53) (Int32.toNatClampNeg sx1) sx0) (b0 + 47) (Int32.toNatClampNeg x7)) : Int32) (ea_wi h (b0 + 53) (Int32.toNatClampNeg sx1) sx0)) : Int32) (x7 : Int32) 0 (x2 : Int32) 0 0 0 0 (x7 : Int32) 0 (wX12_chargeBy b0 (x7 : Int32) ((ea_i (ea_wi h (b0 + 53) (Int32.toNatClampNeg sx1) sx0) (b0 + 47) (Int32.toNatClampNeg x7)) : Int32) (ea_wi h (b0 + 53) (Int32.toNatClampNeg sx1) sx0))))))))) else
    if lbl = 355 then (gd (vp_in sx1 120) (gd (vp_in x7 120) (if (ea_i (ea_wi h (b0 + 48) (Int32.toNatClampNeg sx1) sx0) (b0 + 47) (Int32.toNatClampNeg x7)) = ((-1) : Int32) then (gX12_post b0 f 390 ((-1) : Int32) (x7 : Int32) 0 (x2 : Int32) 0 0 0 0 (x7 : Int32) 0 (ea_wi h (b0 + 48) (Int32.toNatClampNeg sx1) sx0)) else (gd (vp_in x7 120) (gd ((okX12_lineOf b0 (x7 : Int32) ((ea_i (ea_wi h (b0 + 48) (Int32.toNatClampNeg sx1) sx0) (b0 + 47) (Int32.toNatClampNeg x7)) : Int32) (ea_wi h (b0 + 48) (Int32.toNatClampNeg sx1) sx0))) (gX12_post b0 f 390 ((vX12_lineOf b0 (x7 : Int32) ((ea_i (ea_wi h (b0 + 48) (Int32.toNatClampNeg sx1) sx0) (b0 + 47) (Int32.toNatClampNeg x7)) : Int32) (ea_wi h (b0 + 48) (Int32.toNatClampNeg sx1) sx0)) : Int32) (x7 : Int32) 0 (x2 : Int32) 0 0 0 0 (x7 : Int32) 0 (wX12_lineOf b0 (x7 : Int32) ((ea_i (ea_wi h (b0 + 48) (Int32.toNatClampNeg sx1) sx0) (b0 + 47) (Int32.toNatClampNeg x7)) : Int32) (ea_wi h (b0 + 48) (Int32.toNatClampNeg sx1) sx0)))))))) else
    if lbl = 390 then (gd (vp_in sx1 120) (gd (vp_in x7 120) (gd ((okX12_turns b0 (x7 : Int32) ((ea_i (ea_wi (ea_wi h (b0 + 49) (Int32.toNatClampNeg sx1) sx0) (b0 + 57) (Int32.toNatClampNeg x7) (-1)) (b0 + 0) 0) : Int32) (0 : Int32) (x2 : Int32) (ea_wi (ea_wi h (b0 + 49) (Int32.toNatClampNeg sx1) sx0) (b0 + 57) (Int32.toNatClampNeg x7) (-1)))) (some (x7, (wX12_turns b0 (x7 : Int32) ((ea_i (ea_wi (ea_wi h (b0 + 49) (Int32.toNatClampNeg sx1) sx0) (b0 + 57) (Int32.toNatClampNeg x7) (-1)) (b0 + 0) 0) : Int32) (0 : Int32) (x2 : Int32) (ea_wi (ea_wi h (b0 + 49) (Int32.toNatClampNeg sx1) sx0) (b0 + 57) (Int32.toNatClampNeg x7) (-1)))))))) else none
theorem tX12_post {d : Nat} {b0 : Nat} {h0 : ea_H} (hd : 5 ≤ d) : ∀ (f lbl : Nat) (sx0 : Int32) (sx1 : Int32) (x1 : Int32) (x2 : Int32) (x3 : Int32) (x4 : Int32) (x5 : Int32) (x6 : Int32) (x7 : Int32) (x8 : Int32) (h : ea_H) (r : Int32) (h' : ea_H), gX12_post b0 f lbl sx0 sx1 x1 x2 x3 x4 x5 x6 x7 x8 h = some (r, h') → ShM b0 h → (lbl = 0 → ea_W mX12_post d h0 (some (vI r)) h' 0 [(0, vR (some (b0 + 0))), (1, vI x1), (2, vI x2), (3, vI x3), (4, vI x4), (5, vI x5), (6, vI x6)] [] h) ∧ (lbl = 190 → ea_W mX12_post d h0 (some (vI r)) h' 190 [(0, vR (some (b0 + 0))), (2, vI x2), (6, vI x6), (7, vI x7), (8, vI x8)] [] h) ∧ (lbl = 320 → ea_W mX12_post d h0 (some (vI r)) h' 320 [(0, vR (some (b0 + 0))), (2, vI x2), (7, vI x7)] [vI sx0, vI sx1, vR (some (b0 + 53))] h) ∧ (lbl = 355 → ea_W mX12_post d h0 (some (vI r)) h' 355 [(0, vR (some (b0 + 0))), (2, vI x2), (7, vI x7)] [vI sx0, vI sx1, vR (some (b0 + 48))] h) ∧ (lbl = 390 → ea_W mX12_post d h0 (some (vI r)) h' 390 [(0, vR (some (b0 + 0))), (2, vI x2), (7, vI x7)] [vI sx0, vI sx1, vR (some (b0 + 49))] h) := by
  intro f
  induction f with
  | zero => intro lbl sx0 sx1 x1 x2 x3 x4 x5 x6 x7 x8 h r h' E; cases E
  | succ f ih =>
    intro lbl sx0 sx1 x1 x2 x3 x4 x5 x6 x7 x8 h r h' E hs
    unfold gX12_post at E
    refine ⟨?_, ?_⟩
    · intro el
      subst el
      have E := (if_pos rfl).symm.trans E
      refine ea_iload_n (pc := 0) dX12_post_0 rfl 1 rfl ?_
      refine ea_iconst (pc := 1) dX12_post_1 (v := 0) rfl ?_
      refine ea_iconst (pc := 2) dX12_post_2 (v := 4) rfl ?_
      refine ea_callS (pc := 3) (d' := d - 1) (As := [vI x1, vI 0, vI 4]) (st := []) dX12_post_3 kX12_isIn (sX12_isIn (d := d - 1) (by omega)) (by omega) rfl (Nat.le_of_ble_eq_true rfl) ew_1712 ew_1713 ?_
      refine ea_if_eq (pc := 6) (tgt := 72) dX12_post_6 rfl (fun c40 => ?_) (fun c40 => ?_)
      · have E := (if_pos c40).symm.trans E
        refine ea_iconst (pc := 72) dX12_post_72 (v := (-1)) rfl ?_
        exact ea_iretO (pc := 73) dX12_post_73 rfl rfl E
      · have E := (if_neg c40).symm.trans E
        refine ea_aload_n (pc := 9) dX12_post_9 rfl 0 rfl ?_
        refine ea_iload_n (pc := 10) dX12_post_10 rfl 2 rfl ?_
        refine ea_callV (pc := 11) (d' := d - 1) (As := [vI x2]) (st := []) dX12_post_11 kX12_isTown (sX12_isTown (d := d - 1) (by omega) hs) (by omega) rfl (Nat.le_of_ble_eq_true rfl) ew_1708 ew_1710 ew_47 (ci := 12) rfl (by decide) (hs.1 0 (by decide)).1 (hs.1 0 (by decide)).2.1 ?_
        refine ea_if_eq (pc := 14) (tgt := 72) dX12_post_14 rfl (fun c39 => ?_) (fun c39 => ?_)
        · have E := (if_pos c39).symm.trans E
          refine ea_iconst (pc := 72) dX12_post_72 (v := (-1)) rfl ?_
          exact ea_iretO (pc := 73) dX12_post_73 rfl rfl E
        · have E := (if_neg c39).symm.trans E
          refine ea_aload_n (pc := 17) dX12_post_17 rfl 0 rfl ?_
          refine ea_iload_n (pc := 18) dX12_post_18 rfl 3 rfl ?_
          refine ea_callV (pc := 19) (d' := d - 1) (As := [vI x3]) (st := []) dX12_post_19 kX12_isTown (sX12_isTown (d := d - 1) (by omega) hs) (by omega) rfl (Nat.le_of_ble_eq_true rfl) ew_1708 ew_1710 ew_47 (ci := 12) rfl (by decide) (hs.1 0 (by decide)).1 (hs.1 0 (by decide)).2.1 ?_
          refine ea_if_eq (pc := 22) (tgt := 72) dX12_post_22 rfl (fun c38 => ?_) (fun c38 => ?_)
          · have E := (if_pos c38).symm.trans E
            refine ea_iconst (pc := 72) dX12_post_72 (v := (-1)) rfl ?_
            exact ea_iretO (pc := 73) dX12_post_73 rfl rfl E
          · have E := (if_neg c38).symm.trans E
            refine ea_iload_n (pc := 25) dX12_post_25 rfl 2 rfl ?_
            refine ea_iload_n (pc := 26) dX12_post_26 rfl 3 rfl ?_
            refine ea_icmp_eq (pc := 27) (tgt := 72) dX12_post_27 rfl (fun c37 => ?_) (fun c37 => ?_)
            · have E := (if_pos c37).symm.trans E
              refine ea_iconst (pc := 72) dX12_post_72 (v := (-1)) rfl ?_
              exact ea_iretO (pc := 73) dX12_post_73 rfl rfl E
            · have E := (if_neg c37).symm.trans E
              refine ea_iload (pc := 30) dX12_post_30 4 rfl ?_
              refine ea_iconst (pc := 32) dX12_post_32 (v := 1) rfl ?_
              refine ea_bipush (pc := 33) dX12_post_33 (v := 9) rfl ?_
              refine ea_callS (pc := 35) (d' := d - 1) (As := [vI x4, vI 1, vI 9]) (st := []) dX12_post_35 kX12_isIn (sX12_isIn (d := d - 1) (by omega)) (by omega) rfl (Nat.le_of_ble_eq_true rfl) ew_1712 ew_1713 ?_
              refine ea_if_eq (pc := 38) (tgt := 72) dX12_post_38 rfl (fun c36 => ?_) (fun c36 => ?_)
              · have E := (if_pos c36).symm.trans E
                refine ea_iconst (pc := 72) dX12_post_72 (v := (-1)) rfl ?_
                exact ea_iretO (pc := 73) dX12_post_73 rfl rfl E
              · have E := (if_neg c36).symm.trans E
                refine ea_iload (pc := 41) dX12_post_41 5 rfl ?_
                refine ea_iconst (pc := 43) dX12_post_43 (v := 0) rfl ?_
                refine ea_bipush (pc := 44) dX12_post_44 (v := 99) rfl ?_
                refine ea_callS (pc := 46) (d' := d - 1) (As := [vI x5, vI 0, vI 99]) (st := []) dX12_post_46 kX12_isIn (sX12_isIn (d := d - 1) (by omega)) (by omega) rfl (Nat.le_of_ble_eq_true rfl) ew_1712 ew_1713 ?_
                refine ea_if_eq (pc := 49) (tgt := 72) dX12_post_49 rfl (fun c35 => ?_) (fun c35 => ?_)
                · have E := (if_pos c35).symm.trans E
                  refine ea_iconst (pc := 72) dX12_post_72 (v := (-1)) rfl ?_
                  exact ea_iretO (pc := 73) dX12_post_73 rfl rfl E
                · have E := (if_neg c35).symm.trans E
                  refine ea_iload (pc := 52) dX12_post_52 6 rfl ?_
                  refine ea_iconst (pc := 54) dX12_post_54 (v := 0) rfl ?_
                  refine ea_bipush (pc := 55) dX12_post_55 (v := 9) rfl ?_
                  refine ea_callS (pc := 57) (d' := d - 1) (As := [vI x6, vI 0, vI 9]) (st := []) dX12_post_57 kX12_isIn (sX12_isIn (d := d - 1) (by omega)) (by omega) rfl (Nat.le_of_ble_eq_true rfl) ew_1712 ew_1713 ?_
                  refine ea_if_eq (pc := 60) (tgt := 72) dX12_post_60 rfl (fun c34 => ?_) (fun c34 => ?_)
                  · have E := (if_pos c34).symm.trans E
                    refine ea_iconst (pc := 72) dX12_post_72 (v := (-1)) rfl ?_
                    exact ea_iretO (pc := 73) dX12_post_73 rfl rfl E
                  · have E := (if_neg c34).symm.trans E
                    refine ea_aload_n (pc := 63) dX12_post_63 rfl 0 rfl ?_
                    refine ea_getI (pc := 64) dX12_post_64 ec_12 (k := 63) (Nat.le_of_ble_eq_true rfl) rfl (Or.inl ew_1408) (hs.1 0 (by decide)).1 (hs.1 0 (by decide)).2.1 ?_
                    refine ea_bipush (pc := 67) dX12_post_67 (v := 120) rfl ?_
                    refine ea_icmp_ne (pc := 69) (tgt := 74) dX12_post_69 rfl (fun c33 => ?_) (fun c33 => ?_)
                    · have E := (if_neg c33).symm.trans E
                      refine ea_aload_n (pc := 74) dX12_post_74 rfl 0 rfl ?_
                      refine ea_getI (pc := 75) dX12_post_75 ec_12 (k := 63) (Nat.le_of_ble_eq_true rfl) rfl (Or.inl ew_1408) (hs.1 0 (by decide)).1 (hs.1 0 (by decide)).2.1 ?_
                      refine ea_istore (pc := 78) (lv' := [(0, vR (some (b0 + 0))), (1, vI x1), (2, vI x2), (3, vI x3), (4, vI x4), (5, vI x5), (6, vI x6), (7, vI (ea_i h (b0 + 0) 63))]) dX12_post_78 (Nat.le_of_ble_eq_true rfl) [1, 2, 3, 4, 5, 6, 7, 0] rfl ?_
                      refine ea_aload_n (pc := 80) dX12_post_80 rfl 0 rfl ?_
                      refine ea_dup (pc := 81) dX12_post_81 rfl ?_
                      refine ea_getI (pc := 82) dX12_post_82 ec_12 (k := 63) (Nat.le_of_ble_eq_true rfl) rfl (Or.inl ew_1408) (hs.1 0 (by decide)).1 (hs.1 0 (by decide)).2.1 ?_
                      refine ea_iconst (pc := 85) dX12_post_85 (v := 1) rfl ?_
                      refine ea_iadd (pc := 86) dX12_post_86 ?_
                      refine ea_putI (pc := 87) dX12_post_87 ec_12 (k := 63) (Nat.le_of_ble_eq_true rfl) rfl (Or.inl ⟨rfl, Or.inl ew_1408⟩) rfl rfl (hs.1 0 (by decide)).1 (hs.1 0 (by decide)).2.1 ?_
                      have hs7 : ShM b0 (ea_wi h (b0 + 0) 63 ((ea_i h (b0 + 0) 63) + (1 : Int32))) := ShM_wi hs
                      refine ea_aload_n (pc := 90) dX12_post_90 rfl 0 rfl ?_
                      refine ea_getR (pc := 91) dX12_post_91 ec_12 (k := 64) (Nat.le_of_ble_eq_true rfl) rfl (Or.inl ew_1409) (hs7.1 0 (by decide)).1 (hs7.1 0 (by decide)).2.1 (hs7.2 0 64 rfl) ?_
                      refine ea_iload (pc := 94) dX12_post_94 7 rfl ?_
                      refine ea_iload_n (pc := 96) dX12_post_96 rfl 1 rfl ?_
                      obtain ⟨z8, E⟩ := gd_some E
                      refine ea_iast (pc := 97) dX12_post_97 (hs7.1 38 (by decide)).1 (hs7.1 38 (by decide)).2.1 (ea_vpl (hs7.1 38 (by decide)).2.2 z8) ?_
                      have hs9 : ShM b0 (ea_wi (ea_wi h (b0 + 0) 63 ((ea_i h (b0 + 0) 63) + (1 : Int32))) (b0 + 38) (Int32.toNatClampNeg (ea_i h (b0 + 0) 63)) x1) := ShM_wi hs7
                      refine ea_aload_n (pc := 98) dX12_post_98 rfl 0 rfl ?_
                      refine ea_getR (pc := 99) dX12_post_99 ec_12 (k := 65) (Nat.le_of_ble_eq_true rfl) rfl (Or.inl ew_1410) (hs9.1 0 (by decide)).1 (hs9.1 0 (by decide)).2.1 (hs9.2 0 65 rfl) ?_
                      refine ea_iload (pc := 102) dX12_post_102 7 rfl ?_
                      refine ea_iload_n (pc := 104) dX12_post_104 rfl 2 rfl ?_
                      obtain ⟨z10, E⟩ := gd_some E
                      refine ea_iast (pc := 105) dX12_post_105 (hs9.1 39 (by decide)).1 (hs9.1 39 (by decide)).2.1 (ea_vpl (hs9.1 39 (by decide)).2.2 z10) ?_
                      have hs11 : ShM b0 (ea_wi (ea_wi (ea_wi h (b0 + 0) 63 ((ea_i h (b0 + 0) 63) + (1 : Int32))) (b0 + 38) (Int32.toNatClampNeg (ea_i h (b0 + 0) 63)) x1) (b0 + 39) (Int32.toNatClampNeg (ea_i h (b0 + 0) 63)) x2) := ShM_wi hs9
                      refine ea_aload_n (pc := 106) dX12_post_106 rfl 0 rfl ?_
                      refine ea_getR (pc := 107) dX12_post_107 ec_12 (k := 66) (Nat.le_of_ble_eq_true rfl) rfl (Or.inl ew_1411) (hs11.1 0 (by decide)).1 (hs11.1 0 (by decide)).2.1 (hs11.2 0 66 rfl) ?_
                      refine ea_iload (pc := 110) dX12_post_110 7 rfl ?_
                      refine ea_iload_n (pc := 112) dX12_post_112 rfl 3 rfl ?_
                      obtain ⟨z12, E⟩ := gd_some E
                      refine ea_iast (pc := 113) dX12_post_113 (hs11.1 40 (by decide)).1 (hs11.1 40 (by decide)).2.1 (ea_vpl (hs11.1 40 (by decide)).2.2 z12) ?_
                      have hs13 : ShM b0 (ea_wi (ea_wi (ea_wi (ea_wi h (b0 + 0) 63 ((ea_i h (b0 + 0) 63) + (1 : Int32))) (b0 + 38) (Int32.toNatClampNeg (ea_i h (b0 + 0) 63)) x1) (b0 + 39) (Int32.toNatClampNeg (ea_i h (b0 + 0) 63)) x2) (b0 + 40) (Int32.toNatClampNeg (ea_i h (b0 + 0) 63)) x3) := ShM_wi hs11
                      refine ea_aload_n (pc := 114) dX12_post_114 rfl 0 rfl ?_
                      refine ea_getR (pc := 115) dX12_post_115 ec_12 (k := 67) (Nat.le_of_ble_eq_true rfl) rfl (Or.inl ew_1412) (hs13.1 0 (by decide)).1 (hs13.1 0 (by decide)).2.1 (hs13.2 0 67 rfl) ?_
                      refine ea_iload (pc := 118) dX12_post_118 7 rfl ?_
                      refine ea_iload (pc := 120) dX12_post_120 4 rfl ?_
                      obtain ⟨z14, E⟩ := gd_some E
                      refine ea_iast (pc := 122) dX12_post_122 (hs13.1 41 (by decide)).1 (hs13.1 41 (by decide)).2.1 (ea_vpl (hs13.1 41 (by decide)).2.2 z14) ?_
                      have hs15 : ShM b0 (ea_wi (ea_wi (ea_wi (ea_wi (ea_wi h (b0 + 0) 63 ((ea_i h (b0 + 0) 63) + (1 : Int32))) (b0 + 38) (Int32.toNatClampNeg (ea_i h (b0 + 0) 63)) x1) (b0 + 39) (Int32.toNatClampNeg (ea_i h (b0 + 0) 63)) x2) (b0 + 40) (Int32.toNatClampNeg (ea_i h (b0 + 0) 63)) x3) (b0 + 41) (Int32.toNatClampNeg (ea_i h (b0 + 0) 63)) x4) := ShM_wi hs13
                      refine ea_aload_n (pc := 123) dX12_post_123 rfl 0 rfl ?_
                      refine ea_getR (pc := 124) dX12_post_124 ec_12 (k := 68) (Nat.le_of_ble_eq_true rfl) rfl (Or.inl ew_1413) (hs15.1 0 (by decide)).1 (hs15.1 0 (by decide)).2.1 (hs15.2 0 68 rfl) ?_
                      refine ea_iload (pc := 127) dX12_post_127 7 rfl ?_
                      refine ea_iload (pc := 129) dX12_post_129 5 rfl ?_
                      obtain ⟨z16, E⟩ := gd_some E
                      refine ea_iast (pc := 131) dX12_post_131 (hs15.1 42 (by decide)).1 (hs15.1 42 (by decide)).2.1 (ea_vpl (hs15.1 42 (by decide)).2.2 z16) ?_
                      have hs17 : ShM b0 (ea_wi (ea_wi (ea_wi (ea_wi (ea_wi (ea_wi h (b0 + 0) 63 ((ea_i h (b0 + 0) 63) + (1 : Int32))) (b0 + 38) (Int32.toNatClampNeg (ea_i h (b0 + 0) 63)) x1) (b0 + 39) (Int32.toNatClampNeg (ea_i h (b0 + 0) 63)) x2) (b0 + 40) (Int32.toNatClampNeg (ea_i h (b0 + 0) 63)) x3) (b0 + 41) (Int32.toNatClampNeg (ea_i h (b0 + 0) 63)) x4) (b0 + 42) (Int32.toNatClampNeg (ea_i h (b0 + 0) 63)) x5) := ShM_wi hs15
                      refine ea_aload_n (pc := 132) dX12_post_132 rfl 0 rfl ?_
                      refine ea_getR (pc := 133) dX12_post_133 ec_12 (k := 69) (Nat.le_of_ble_eq_true rfl) rfl (Or.inl ew_1414) (hs17.1 0 (by decide)).1 (hs17.1 0 (by decide)).2.1 (hs17.2 0 69 rfl) ?_
                      refine ea_iload (pc := 136) dX12_post_136 7 rfl ?_
                      refine ea_iload (pc := 138) dX12_post_138 6 rfl ?_
                      obtain ⟨z18, E⟩ := gd_some E
                      refine ea_iast (pc := 140) dX12_post_140 (hs17.1 43 (by decide)).1 (hs17.1 43 (by decide)).2.1 (ea_vpl (hs17.1 43 (by decide)).2.2 z18) ?_
                      have hs19 : ShM b0 (ea_wi (ea_wi (ea_wi (ea_wi (ea_wi (ea_wi (ea_wi h (b0 + 0) 63 ((ea_i h (b0 + 0) 63) + (1 : Int32))) (b0 + 38) (Int32.toNatClampNeg (ea_i h (b0 + 0) 63)) x1) (b0 + 39) (Int32.toNatClampNeg (ea_i h (b0 + 0) 63)) x2) (b0 + 40) (Int32.toNatClampNeg (ea_i h (b0 + 0) 63)) x3) (b0 + 41) (Int32.toNatClampNeg (ea_i h (b0 + 0) 63)) x4) (b0 + 42) (Int32.toNatClampNeg (ea_i h (b0 + 0) 63)) x5) (b0 + 43) (Int32.toNatClampNeg (ea_i h (b0 + 0) 63)) x6) := ShM_wi hs17
                      refine ea_aload_n (pc := 141) dX12_post_141 rfl 0 rfl ?_
                      refine ea_getR (pc := 142) dX12_post_142 ec_12 (k := 70) (Nat.le_of_ble_eq_true rfl) rfl (Or.inl ew_1415) (hs19.1 0 (by decide)).1 (hs19.1 0 (by decide)).2.1 (hs19.2 0 70 rfl) ?_
                      refine ea_iload (pc := 145) dX12_post_145 7 rfl ?_
                      refine ea_aload_n (pc := 147) dX12_post_147 rfl 0 rfl ?_
                      refine ea_getI (pc := 148) dX12_post_148 ec_12 (k := 0) (Nat.le_of_ble_eq_true rfl) rfl (Or.inl ew_1345) (hs19.1 0 (by decide)).1 (hs19.1 0 (by decide)).2.1 ?_
                      obtain ⟨z20, E⟩ := gd_some E
                      refine ea_iast (pc := 151) dX12_post_151 (hs19.1 44 (by decide)).1 (hs19.1 44 (by decide)).2.1 (ea_vpl (hs19.1 44 (by decide)).2.2 z20) ?_
                      have hs21 : ShM b0 (ea_wi (ea_wi (ea_wi (ea_wi (ea_wi (ea_wi (ea_wi (ea_wi h (b0 + 0) 63 ((ea_i h (b0 + 0) 63) + (1 : Int32))) (b0 + 38) (Int32.toNatClampNeg (ea_i h (b0 + 0) 63)) x1) (b0 + 39) (Int32.toNatClampNeg (ea_i h (b0 + 0) 63)) x2) (b0 + 40) (Int32.toNatClampNeg (ea_i h (b0 + 0) 63)) x3) (b0 + 41) (Int32.toNatClampNeg (ea_i h (b0 + 0) 63)) x4) (b0 + 42) (Int32.toNatClampNeg (ea_i h (b0 + 0) 63)) x5) (b0 + 43) (Int32.toNatClampNeg (ea_i h (b0 + 0) 63)) x6) (b0 + 44) (Int32.toNatClampNeg (ea_i h (b0 + 0) 63)) (ea_i (ea_wi (ea_wi (ea_wi (ea_wi (ea_wi (ea_wi (ea_wi h (b0 + 0) 63 ((ea_i h (b0 + 0) 63) + (1 : Int32))) (b0 + 38) (Int32.toNatClampNeg (ea_i h (b0 + 0) 63)) x1) (b0 + 39) (Int32.toNatClampNeg (ea_i h (b0 + 0) 63)) x2) (b0 + 40) (Int32.toNatClampNeg (ea_i h (b0 + 0) 63)) x3) (b0 + 41) (Int32.toNatClampNeg (ea_i h (b0 + 0) 63)) x4) (b0 + 42) (Int32.toNatClampNeg (ea_i h (b0 + 0) 63)) x5) (b0 + 43) (Int32.toNatClampNeg (ea_i h (b0 + 0) 63)) x6) (b0 + 0) 0)) := ShM_wi hs19
                      refine ea_aload_n (pc := 152) dX12_post_152 rfl 0 rfl ?_
                      refine ea_getR (pc := 153) dX12_post_153 ec_12 (k := 71) (Nat.le_of_ble_eq_true rfl) rfl (Or.inl ew_1416) (hs21.1 0 (by decide)).1 (hs21.1 0 (by decide)).2.1 (hs21.2 0 71 rfl) ?_
                      refine ea_iload (pc := 156) dX12_post_156 7 rfl ?_
                      refine ea_aload_n (pc := 158) dX12_post_158 rfl 0 rfl ?_
                      refine ea_iload_n (pc := 159) dX12_post_159 rfl 2 rfl ?_
                      refine ea_iload_n (pc := 160) dX12_post_160 rfl 3 rfl ?_
                      refine ea_iconst (pc := 161) dX12_post_161 (v := 0) rfl ?_
                      obtain ⟨z22, E⟩ := gd_some E
                      refine ea_callV (pc := 162) (d' := d - 1) (As := [vI x2, vI x3, vI 0]) (st := [vI (ea_i h (b0 + 0) 63), vR (some (b0 + 45))]) dX12_post_162 kX12_milesOf (sX12_milesOf (d := d - 1) (by omega) hs21 z22) (by omega) rfl (Nat.le_of_ble_eq_true rfl) ew_1719 ew_1721 ew_48 (ci := 12) rfl (by decide) (hs21.1 0 (by decide)).1 (hs21.1 0 (by decide)).2.1 ?_
                      have hs23 : ShM b0 (wX12_milesOf b0 (x2 : Int32) (x3 : Int32) (0 : Int32) (ea_wi (ea_wi (ea_wi (ea_wi (ea_wi (ea_wi (ea_wi (ea_wi h (b0 + 0) 63 ((ea_i h (b0 + 0) 63) + (1 : Int32))) (b0 + 38) (Int32.toNatClampNeg (ea_i h (b0 + 0) 63)) x1) (b0 + 39) (Int32.toNatClampNeg (ea_i h (b0 + 0) 63)) x2) (b0 + 40) (Int32.toNatClampNeg (ea_i h (b0 + 0) 63)) x3) (b0 + 41) (Int32.toNatClampNeg (ea_i h (b0 + 0) 63)) x4) (b0 + 42) (Int32.toNatClampNeg (ea_i h (b0 + 0) 63)) x5) (b0 + 43) (Int32.toNatClampNeg (ea_i h (b0 + 0) 63)) x6) (b0 + 44) (Int32.toNatClampNeg (ea_i h (b0 + 0) 63)) (ea_i (ea_wi (ea_wi (ea_wi (ea_wi (ea_wi (ea_wi (ea_wi h (b0 + 0) 63 ((ea_i h (b0 + 0) 63) + (1 : Int32))) (b0 + 38) (Int32.toNatClampNeg (ea_i h (b0 + 0) 63)) x1) (b0 + 39) (Int32.toNatClampNeg (ea_i h (b0 + 0) 63)) x2) (b0 + 40) (Int32.toNatClampNeg (ea_i h (b0 + 0) 63)) x3) (b0 + 41) (Int32.toNatClampNeg (ea_i h (b0 + 0) 63)) x4) (b0 + 42) (Int32.toNatClampNeg (ea_i h (b0 + 0) 63)) x5) (b0 + 43) (Int32.toNatClampNeg (ea_i h (b0 + 0) 63)) x6) (b0 + 0) 0))) := shX12_milesOf hs21
                      obtain ⟨z24, E⟩ := gd_some E
                      refine ea_iast (pc := 165) dX12_post_165 (hs23.1 45 (by decide)).1 (hs23.1 45 (by decide)).2.1 (ea_vpl (hs23.1 45 (by decide)).2.2 z24) ?_
                      have hs25 : ShM b0 (ea_wi (wX12_milesOf b0 (x2 : Int32) (x3 : Int32) (0 : Int32) (ea_wi (ea_wi (ea_wi (ea_wi (ea_wi (ea_wi (ea_wi (ea_wi h (b0 + 0) 63 ((ea_i h (b0 + 0) 63) + (1 : Int32))) (b0 + 38) (Int32.toNatClampNeg (ea_i h (b0 + 0) 63)) x1) (b0 + 39) (Int32.toNatClampNeg (ea_i h (b0 + 0) 63)) x2) (b0 + 40) (Int32.toNatClampNeg (ea_i h (b0 + 0) 63)) x3) (b0 + 41) (Int32.toNatClampNeg (ea_i h (b0 + 0) 63)) x4) (b0 + 42) (Int32.toNatClampNeg (ea_i h (b0 + 0) 63)) x5) (b0 + 43) (Int32.toNatClampNeg (ea_i h (b0 + 0) 63)) x6) (b0 + 44) (Int32.toNatClampNeg (ea_i h (b0 + 0) 63)) (ea_i (ea_wi (ea_wi (ea_wi (ea_wi (ea_wi (ea_wi (ea_wi h (b0 + 0) 63 ((ea_i h (b0 + 0) 63) + (1 : Int32))) (b0 + 38) (Int32.toNatClampNeg (ea_i h (b0 + 0) 63)) x1) (b0 + 39) (Int32.toNatClampNeg (ea_i h (b0 + 0) 63)) x2) (b0 + 40) (Int32.toNatClampNeg (ea_i h (b0 + 0) 63)) x3) (b0 + 41) (Int32.toNatClampNeg (ea_i h (b0 + 0) 63)) x4) (b0 + 42) (Int32.toNatClampNeg (ea_i h (b0 + 0) 63)) x5) (b0 + 43) (Int32.toNatClampNeg (ea_i h (b0 + 0) 63)) x6) (b0 + 0) 0))) (b0 + 45) (Int32.toNatClampNeg (ea_i h (b0 + 0) 63)) (vX12_milesOf b0 (x2 : Int32) (x3 : Int32) (0 : Int32) (ea_wi (ea_wi (ea_wi (ea_wi (ea_wi (ea_wi (ea_wi (ea_wi h (b0 + 0) 63 ((ea_i h (b0 + 0) 63) + (1 : Int32))) (b0 + 38) (Int32.toNatClampNeg (ea_i h (b0 + 0) 63)) x1) (b0 + 39) (Int32.toNatClampNeg (ea_i h (b0 + 0) 63)) x2) (b0 + 40) (Int32.toNatClampNeg (ea_i h (b0 + 0) 63)) x3) (b0 + 41) (Int32.toNatClampNeg (ea_i h (b0 + 0) 63)) x4) (b0 + 42) (Int32.toNatClampNeg (ea_i h (b0 + 0) 63)) x5) (b0 + 43) (Int32.toNatClampNeg (ea_i h (b0 + 0) 63)) x6) (b0 + 44) (Int32.toNatClampNeg (ea_i h (b0 + 0) 63)) (ea_i (ea_wi (ea_wi (ea_wi (ea_wi (ea_wi (ea_wi (ea_wi h (b0 + 0) 63 ((ea_i h (b0 + 0) 63) + (1 : Int32))) (b0 + 38) (Int32.toNatClampNeg (ea_i h (b0 + 0) 63)) x1) (b0 + 39) (Int32.toNatClampNeg (ea_i h (b0 + 0) 63)) x2) (b0 + 40) (Int32.toNatClampNeg (ea_i h (b0 + 0) 63)) x3) (b0 + 41) (Int32.toNatClampNeg (ea_i h (b0 + 0) 63)) x4) (b0 + 42) (Int32.toNatClampNeg (ea_i h (b0 + 0) 63)) x5) (b0 + 43) (Int32.toNatClampNeg (ea_i h (b0 + 0) 63)) x6) (b0 + 0) 0)))) := ShM_wi hs23
                      refine ea_aload_n (pc := 166) dX12_post_166 rfl 0 rfl ?_
                      refine ea_getR (pc := 167) dX12_post_167 ec_12 (k := 78) (Nat.le_of_ble_eq_true rfl) rfl (Or.inl ew_1423) (hs25.1 0 (by decide)).1 (hs25.1 0 (by decide)).2.1 (hs25.2 0 78 rfl) ?_
                      refine ea_iload (pc := 170) dX12_post_170 7 rfl ?_
                      refine ea_aload_n (pc := 172) dX12_post_172 rfl 0 rfl ?_
                      refine ea_iload_n (pc := 173) dX12_post_173 rfl 2 rfl ?_
                      refine ea_iload_n (pc := 174) dX12_post_174 rfl 3 rfl ?_
                      obtain ⟨z26, E⟩ := gd_some E
                      refine ea_callV (pc := 175) (d' := d - 1) (As := [vI x2, vI x3]) (st := [vI (ea_i h (b0 + 0) 63), vR (some (b0 + 52))]) dX12_post_175 kX12_isCross (sX12_isCross (d := d - 1) (by omega) hs25 z26) (by omega) rfl (Nat.le_of_ble_eq_true rfl) ew_1983 ew_1985 ew_82 (ci := 12) rfl (by decide) (hs25.1 0 (by decide)).1 (hs25.1 0 (by decide)).2.1 ?_
                      have hs27 : ShM b0 (wX12_isCross b0 (x2 : Int32) (x3 : Int32) (ea_wi (wX12_milesOf b0 (x2 : Int32) (x3 : Int32) (0 : Int32) (ea_wi (ea_wi (ea_wi (ea_wi (ea_wi (ea_wi (ea_wi (ea_wi h (b0 + 0) 63 ((ea_i h (b0 + 0) 63) + (1 : Int32))) (b0 + 38) (Int32.toNatClampNeg (ea_i h (b0 + 0) 63)) x1) (b0 + 39) (Int32.toNatClampNeg (ea_i h (b0 + 0) 63)) x2) (b0 + 40) (Int32.toNatClampNeg (ea_i h (b0 + 0) 63)) x3) (b0 + 41) (Int32.toNatClampNeg (ea_i h (b0 + 0) 63)) x4) (b0 + 42) (Int32.toNatClampNeg (ea_i h (b0 + 0) 63)) x5) (b0 + 43) (Int32.toNatClampNeg (ea_i h (b0 + 0) 63)) x6) (b0 + 44) (Int32.toNatClampNeg (ea_i h (b0 + 0) 63)) (ea_i (ea_wi (ea_wi (ea_wi (ea_wi (ea_wi (ea_wi (ea_wi h (b0 + 0) 63 ((ea_i h (b0 + 0) 63) + (1 : Int32))) (b0 + 38) (Int32.toNatClampNeg (ea_i h (b0 + 0) 63)) x1) (b0 + 39) (Int32.toNatClampNeg (ea_i h (b0 + 0) 63)) x2) (b0 + 40) (Int32.toNatClampNeg (ea_i h (b0 + 0) 63)) x3) (b0 + 41) (Int32.toNatClampNeg (ea_i h (b0 + 0) 63)) x4) (b0 + 42) (Int32.toNatClampNeg (ea_i h (b0 + 0) 63)) x5) (b0 + 43) (Int32.toNatClampNeg (ea_i h (b0 + 0) 63)) x6) (b0 + 0) 0))) (b0 + 45) (Int32.toNatClampNeg (ea_i h (b0 + 0) 63)) (vX12_milesOf b0 (x2 : Int32) (x3 : Int32) (0 : Int32) (ea_wi (ea_wi (ea_wi (ea_wi (ea_wi (ea_wi (ea_wi (ea_wi h (b0 + 0) 63 ((ea_i h (b0 + 0) 63) + (1 : Int32))) (b0 + 38) (Int32.toNatClampNeg (ea_i h (b0 + 0) 63)) x1) (b0 + 39) (Int32.toNatClampNeg (ea_i h (b0 + 0) 63)) x2) (b0 + 40) (Int32.toNatClampNeg (ea_i h (b0 + 0) 63)) x3) (b0 + 41) (Int32.toNatClampNeg (ea_i h (b0 + 0) 63)) x4) (b0 + 42) (Int32.toNatClampNeg (ea_i h (b0 + 0) 63)) x5) (b0 + 43) (Int32.toNatClampNeg (ea_i h (b0 + 0) 63)) x6) (b0 + 44) (Int32.toNatClampNeg (ea_i h (b0 + 0) 63)) (ea_i (ea_wi (ea_wi (ea_wi (ea_wi (ea_wi (ea_wi (ea_wi h (b0 + 0) 63 ((ea_i h (b0 + 0) 63) + (1 : Int32))) (b0 + 38) (Int32.toNatClampNeg (ea_i h (b0 + 0) 63)) x1) (b0 + 39) (Int32.toNatClampNeg (ea_i h (b0 + 0) 63)) x2) (b0 + 40) (Int32.toNatClampNeg (ea_i h (b0 + 0) 63)) x3) (b0 + 41) (Int32.toNatClampNeg (ea_i h (b0 + 0) 63)) x4) (b0 + 42) (Int32.toNatClampNeg (ea_i h (b0 + 0) 63)) x5) (b0 + 43) (Int32.toNatClampNeg (ea_i h (b0 + 0) 63)) x6) (b0 + 0) 0))))) := shX12_isCross hs25
                      obtain ⟨z28, E⟩ := gd_some E
                      obtain ⟨z30, E⟩ := gd_some E
                      refine ea_zast (pc := 178) dX12_post_178 (y := (vX12_isCross b0 (x2 : Int32) (x3 : Int32) (ea_wi (wX12_milesOf b0 (x2 : Int32) (x3 : Int32) (0 : Int32) (ea_wi (ea_wi (ea_wi (ea_wi (ea_wi (ea_wi (ea_wi (ea_wi h (b0 + 0) 63 ((ea_i h (b0 + 0) 63) + (1 : Int32))) (b0 + 38) (Int32.toNatClampNeg (ea_i h (b0 + 0) 63)) x1) (b0 + 39) (Int32.toNatClampNeg (ea_i h (b0 + 0) 63)) x2) (b0 + 40) (Int32.toNatClampNeg (ea_i h (b0 + 0) 63)) x3) (b0 + 41) (Int32.toNatClampNeg (ea_i h (b0 + 0) 63)) x4) (b0 + 42) (Int32.toNatClampNeg (ea_i h (b0 + 0) 63)) x5) (b0 + 43) (Int32.toNatClampNeg (ea_i h (b0 + 0) 63)) x6) (b0 + 44) (Int32.toNatClampNeg (ea_i h (b0 + 0) 63)) (ea_i (ea_wi (ea_wi (ea_wi (ea_wi (ea_wi (ea_wi (ea_wi h (b0 + 0) 63 ((ea_i h (b0 + 0) 63) + (1 : Int32))) (b0 + 38) (Int32.toNatClampNeg (ea_i h (b0 + 0) 63)) x1) (b0 + 39) (Int32.toNatClampNeg (ea_i h (b0 + 0) 63)) x2) (b0 + 40) (Int32.toNatClampNeg (ea_i h (b0 + 0) 63)) x3) (b0 + 41) (Int32.toNatClampNeg (ea_i h (b0 + 0) 63)) x4) (b0 + 42) (Int32.toNatClampNeg (ea_i h (b0 + 0) 63)) x5) (b0 + 43) (Int32.toNatClampNeg (ea_i h (b0 + 0) 63)) x6) (b0 + 0) 0))) (b0 + 45) (Int32.toNatClampNeg (ea_i h (b0 + 0) 63)) (vX12_milesOf b0 (x2 : Int32) (x3 : Int32) (0 : Int32) (ea_wi (ea_wi (ea_wi (ea_wi (ea_wi (ea_wi (ea_wi (ea_wi h (b0 + 0) 63 ((ea_i h (b0 + 0) 63) + (1 : Int32))) (b0 + 38) (Int32.toNatClampNeg (ea_i h (b0 + 0) 63)) x1) (b0 + 39) (Int32.toNatClampNeg (ea_i h (b0 + 0) 63)) x2) (b0 + 40) (Int32.toNatClampNeg (ea_i h (b0 + 0) 63)) x3) (b0 + 41) (Int32.toNatClampNeg (ea_i h (b0 + 0) 63)) x4) (b0 + 42) (Int32.toNatClampNeg (ea_i h (b0 + 0) 63)) x5) (b0 + 43) (Int32.toNatClampNeg (ea_i h (b0 + 0) 63)) x6) (b0 + 44) (Int32.toNatClampNeg (ea_i h (b0 + 0) 63)) (ea_i (ea_wi (ea_wi (ea_wi (ea_wi (ea_wi (ea_wi (ea_wi h (b0 + 0) 63 ((ea_i h (b0 + 0) 63) + (1 : Int32))) (b0 + 38) (Int32.toNatClampNeg (ea_i h (b0 + 0) 63)) x1) (b0 + 39) (Int32.toNatClampNeg (ea_i h (b0 + 0) 63)) x2) (b0 + 40) (Int32.toNatClampNeg (ea_i h (b0 + 0) 63)) x3) (b0 + 41) (Int32.toNatClampNeg (ea_i h (b0 + 0) 63)) x4) (b0 + 42) (Int32.toNatClampNeg (ea_i h (b0 + 0) 63)) x5) (b0 + 43) (Int32.toNatClampNeg (ea_i h (b0 + 0) 63)) x6) (b0 + 0) 0)))))) (ea_bn z30) (hs27.1 52 (by decide)).1 (hs27.1 52 (by decide)).2.1 (ea_vpl (hs27.1 52 (by decide)).2.2 z28) ?_
                      have hs29 : ShM b0 (ea_wi (wX12_isCross b0 (x2 : Int32) (x3 : Int32) (ea_wi (wX12_milesOf b0 (x2 : Int32) (x3 : Int32) (0 : Int32) (ea_wi (ea_wi (ea_wi (ea_wi (ea_wi (ea_wi (ea_wi (ea_wi h (b0 + 0) 63 ((ea_i h (b0 + 0) 63) + (1 : Int32))) (b0 + 38) (Int32.toNatClampNeg (ea_i h (b0 + 0) 63)) x1) (b0 + 39) (Int32.toNatClampNeg (ea_i h (b0 + 0) 63)) x2) (b0 + 40) (Int32.toNatClampNeg (ea_i h (b0 + 0) 63)) x3) (b0 + 41) (Int32.toNatClampNeg (ea_i h (b0 + 0) 63)) x4) (b0 + 42) (Int32.toNatClampNeg (ea_i h (b0 + 0) 63)) x5) (b0 + 43) (Int32.toNatClampNeg (ea_i h (b0 + 0) 63)) x6) (b0 + 44) (Int32.toNatClampNeg (ea_i h (b0 + 0) 63)) (ea_i (ea_wi (ea_wi (ea_wi (ea_wi (ea_wi (ea_wi (ea_wi h (b0 + 0) 63 ((ea_i h (b0 + 0) 63) + (1 : Int32))) (b0 + 38) (Int32.toNatClampNeg (ea_i h (b0 + 0) 63)) x1) (b0 + 39) (Int32.toNatClampNeg (ea_i h (b0 + 0) 63)) x2) (b0 + 40) (Int32.toNatClampNeg (ea_i h (b0 + 0) 63)) x3) (b0 + 41) (Int32.toNatClampNeg (ea_i h (b0 + 0) 63)) x4) (b0 + 42) (Int32.toNatClampNeg (ea_i h (b0 + 0) 63)) x5) (b0 + 43) (Int32.toNatClampNeg (ea_i h (b0 + 0) 63)) x6) (b0 + 0) 0))) (b0 + 45) (Int32.toNatClampNeg (ea_i h (b0 + 0) 63)) (vX12_milesOf b0 (x2 : Int32) (x3 : Int32) (0 : Int32) (ea_wi (ea_wi (ea_wi (ea_wi (ea_wi (ea_wi (ea_wi (ea_wi h (b0 + 0) 63 ((ea_i h (b0 + 0) 63) + (1 : Int32))) (b0 + 38) (Int32.toNatClampNeg (ea_i h (b0 + 0) 63)) x1) (b0 + 39) (Int32.toNatClampNeg (ea_i h (b0 + 0) 63)) x2) (b0 + 40) (Int32.toNatClampNeg (ea_i h (b0 + 0) 63)) x3) (b0 + 41) (Int32.toNatClampNeg (ea_i h (b0 + 0) 63)) x4) (b0 + 42) (Int32.toNatClampNeg (ea_i h (b0 + 0) 63)) x5) (b0 + 43) (Int32.toNatClampNeg (ea_i h (b0 + 0) 63)) x6) (b0 + 44) (Int32.toNatClampNeg (ea_i h (b0 + 0) 63)) (ea_i (ea_wi (ea_wi (ea_wi (ea_wi (ea_wi (ea_wi (ea_wi h (b0 + 0) 63 ((ea_i h (b0 + 0) 63) + (1 : Int32))) (b0 + 38) (Int32.toNatClampNeg (ea_i h (b0 + 0) 63)) x1) (b0 + 39) (Int32.toNatClampNeg (ea_i h (b0 + 0) 63)) x2) (b0 + 40) (Int32.toNatClampNeg (ea_i h (b0 + 0) 63)) x3) (b0 + 41) (Int32.toNatClampNeg (ea_i h (b0 + 0) 63)) x4) (b0 + 42) (Int32.toNatClampNeg (ea_i h (b0 + 0) 63)) x5) (b0 + 43) (Int32.toNatClampNeg (ea_i h (b0 + 0) 63)) x6) (b0 + 0) 0))))) (b0 + 52) (Int32.toNatClampNeg (ea_i h (b0 + 0) 63)) (vX12_isCross b0 (x2 : Int32) (x3 : Int32) (ea_wi (wX12_milesOf b0 (x2 : Int32) (x3 : Int32) (0 : Int32) (ea_wi (ea_wi (ea_wi (ea_wi (ea_wi (ea_wi (ea_wi (ea_wi h (b0 + 0) 63 ((ea_i h (b0 + 0) 63) + (1 : Int32))) (b0 + 38) (Int32.toNatClampNeg (ea_i h (b0 + 0) 63)) x1) (b0 + 39) (Int32.toNatClampNeg (ea_i h (b0 + 0) 63)) x2) (b0 + 40) (Int32.toNatClampNeg (ea_i h (b0 + 0) 63)) x3) (b0 + 41) (Int32.toNatClampNeg (ea_i h (b0 + 0) 63)) x4) (b0 + 42) (Int32.toNatClampNeg (ea_i h (b0 + 0) 63)) x5) (b0 + 43) (Int32.toNatClampNeg (ea_i h (b0 + 0) 63)) x6) (b0 + 44) (Int32.toNatClampNeg (ea_i h (b0 + 0) 63)) (ea_i (ea_wi (ea_wi (ea_wi (ea_wi (ea_wi (ea_wi (ea_wi h (b0 + 0) 63 ((ea_i h (b0 + 0) 63) + (1 : Int32))) (b0 + 38) (Int32.toNatClampNeg (ea_i h (b0 + 0) 63)) x1) (b0 + 39) (Int32.toNatClampNeg (ea_i h (b0 + 0) 63)) x2) (b0 + 40) (Int32.toNatClampNeg (ea_i h (b0 + 0) 63)) x3) (b0 + 41) (Int32.toNatClampNeg (ea_i h (b0 + 0) 63)) x4) (b0 + 42) (Int32.toNatClampNeg (ea_i h (b0 + 0) 63)) x5) (b0 + 43) (Int32.toNatClampNeg (ea_i h (b0 + 0) 63)) x6) (b0 + 0) 0))) (b0 + 45) (Int32.toNatClampNeg (ea_i h (b0 + 0) 63)) (vX12_milesOf b0 (x2 : Int32) (x3 : Int32) (0 : Int32) (ea_wi (ea_wi (ea_wi (ea_wi (ea_wi (ea_wi (ea_wi (ea_wi h (b0 + 0) 63 ((ea_i h (b0 + 0) 63) + (1 : Int32))) (b0 + 38) (Int32.toNatClampNeg (ea_i h (b0 + 0) 63)) x1) (b0 + 39) (Int32.toNatClampNeg (ea_i h (b0 + 0) 63)) x2) (b0 + 40) (Int32.toNatClampNeg (ea_i h (b0 + 0) 63)) x3) (b0 + 41) (Int32.toNatClampNeg (ea_i h (b0 + 0) 63)) x4) (b0 + 42) (Int32.toNatClampNeg (ea_i h (b0 + 0) 63)) x5) (b0 + 43) (Int32.toNatClampNeg (ea_i h (b0 + 0) 63)) x6) (b0 + 44) (Int32.toNatClampNeg (ea_i h (b0 + 0) 63)) (ea_i (ea_wi (ea_wi (ea_wi (ea_wi (ea_wi (ea_wi (ea_wi h (b0 + 0) 63 ((ea_i h (b0 + 0) 63) + (1 : Int32))) (b0 + 38) (Int32.toNatClampNeg (ea_i h (b0 + 0) 63)) x1) (b0 + 39) (Int32.toNatClampNeg (ea_i h (b0 + 0) 63)) x2) (b0 + 40) (Int32.toNatClampNeg (ea_i h (b0 + 0) 63)) x3) (b0 + 41) (Int32.toNatClampNeg (ea_i h (b0 + 0) 63)) x4) (b0 + 42) (Int32.toNatClampNeg (ea_i h (b0 + 0) 63)) x5) (b0 + 43) (Int32.toNatClampNeg (ea_i h (b0 + 0) 63)) x6) (b0 + 0) 0)))))) := ShM_wi hs27
                      refine ea_aload_n (pc := 179) dX12_post_179 rfl 0 rfl ?_
                      refine ea_getR (pc := 180) dX12_post_180 ec_12 (k := 72) (Nat.le_of_ble_eq_true rfl) rfl (Or.inl ew_1417) (hs29.1 0 (by decide)).1 (hs29.1 0 (by decide)).2.1 (hs29.2 0 72 rfl) ?_
                      refine ea_iload (pc := 183) dX12_post_183 7 rfl ?_
                      refine ea_iconst (pc := 185) dX12_post_185 (v := 0) rfl ?_
                      obtain ⟨z31, E⟩ := gd_some E
                      refine ea_iast (pc := 186) dX12_post_186 (hs29.1 46 (by decide)).1 (hs29.1 46 (by decide)).2.1 (ea_vpl (hs29.1 46 (by decide)).2.2 z31) ?_
                      have hs32 : ShM b0 (ea_wi (ea_wi (wX12_isCross b0 (x2 : Int32) (x3 : Int32) (ea_wi (wX12_milesOf b0 (x2 : Int32) (x3 : Int32) (0 : Int32) (ea_wi (ea_wi (ea_wi (ea_wi (ea_wi (ea_wi (ea_wi (ea_wi h (b0 + 0) 63 ((ea_i h (b0 + 0) 63) + (1 : Int32))) (b0 + 38) (Int32.toNatClampNeg (ea_i h (b0 + 0) 63)) x1) (b0 + 39) (Int32.toNatClampNeg (ea_i h (b0 + 0) 63)) x2) (b0 + 40) (Int32.toNatClampNeg (ea_i h (b0 + 0) 63)) x3) (b0 + 41) (Int32.toNatClampNeg (ea_i h (b0 + 0) 63)) x4) (b0 + 42) (Int32.toNatClampNeg (ea_i h (b0 + 0) 63)) x5) (b0 + 43) (Int32.toNatClampNeg (ea_i h (b0 + 0) 63)) x6) (b0 + 44) (Int32.toNatClampNeg (ea_i h (b0 + 0) 63)) (ea_i (ea_wi (ea_wi (ea_wi (ea_wi (ea_wi (ea_wi (ea_wi h (b0 + 0) 63 ((ea_i h (b0 + 0) 63) + (1 : Int32))) (b0 + 38) (Int32.toNatClampNeg (ea_i h (b0 + 0) 63)) x1) (b0 + 39) (Int32.toNatClampNeg (ea_i h (b0 + 0) 63)) x2) (b0 + 40) (Int32.toNatClampNeg (ea_i h (b0 + 0) 63)) x3) (b0 + 41) (Int32.toNatClampNeg (ea_i h (b0 + 0) 63)) x4) (b0 + 42) (Int32.toNatClampNeg (ea_i h (b0 + 0) 63)) x5) (b0 + 43) (Int32.toNatClampNeg (ea_i h (b0 + 0) 63)) x6) (b0 + 0) 0))) (b0 + 45) (Int32.toNatClampNeg (ea_i h (b0 + 0) 63)) (vX12_milesOf b0 (x2 : Int32) (x3 : Int32) (0 : Int32) (ea_wi (ea_wi (ea_wi (ea_wi (ea_wi (ea_wi (ea_wi (ea_wi h (b0 + 0) 63 ((ea_i h (b0 + 0) 63) + (1 : Int32))) (b0 + 38) (Int32.toNatClampNeg (ea_i h (b0 + 0) 63)) x1) (b0 + 39) (Int32.toNatClampNeg (ea_i h (b0 + 0) 63)) x2) (b0 + 40) (Int32.toNatClampNeg (ea_i h (b0 + 0) 63)) x3) (b0 + 41) (Int32.toNatClampNeg (ea_i h (b0 + 0) 63)) x4) (b0 + 42) (Int32.toNatClampNeg (ea_i h (b0 + 0) 63)) x5) (b0 + 43) (Int32.toNatClampNeg (ea_i h (b0 + 0) 63)) x6) (b0 + 44) (Int32.toNatClampNeg (ea_i h (b0 + 0) 63)) (ea_i (ea_wi (ea_wi (ea_wi (ea_wi (ea_wi (ea_wi (ea_wi h (b0 + 0) 63 ((ea_i h (b0 + 0) 63) + (1 : Int32))) (b0 + 38) (Int32.toNatClampNeg (ea_i h (b0 + 0) 63)) x1) (b0 + 39) (Int32.toNatClampNeg (ea_i h (b0 + 0) 63)) x2) (b0 + 40) (Int32.toNatClampNeg (ea_i h (b0 + 0) 63)) x3) (b0 + 41) (Int32.toNatClampNeg (ea_i h (b0 + 0) 63)) x4) (b0 + 42) (Int32.toNatClampNeg (ea_i h (b0 + 0) 63)) x5) (b0 + 43) (Int32.toNatClampNeg (ea_i h (b0 + 0) 63)) x6) (b0 + 0) 0))))) (b0 + 52) (Int32.toNatClampNeg (ea_i h (b0 + 0) 63)) (vX12_isCross b0 (x2 : Int32) (x3 : Int32) (ea_wi (wX12_milesOf b0 (x2 : Int32) (x3 : Int32) (0 : Int32) (ea_wi (ea_wi (ea_wi (ea_wi (ea_wi (ea_wi (ea_wi (ea_wi h (b0 + 0) 63 ((ea_i h (b0 + 0) 63) + (1 : Int32))) (b0 + 38) (Int32.toNatClampNeg (ea_i h (b0 + 0) 63)) x1) (b0 + 39) (Int32.toNatClampNeg (ea_i h (b0 + 0) 63)) x2) (b0 + 40) (Int32.toNatClampNeg (ea_i h (b0 + 0) 63)) x3) (b0 + 41) (Int32.toNatClampNeg (ea_i h (b0 + 0) 63)) x4) (b0 + 42) (Int32.toNatClampNeg (ea_i h (b0 + 0) 63)) x5) (b0 + 43) (Int32.toNatClampNeg (ea_i h (b0 + 0) 63)) x6) (b0 + 44) (Int32.toNatClampNeg (ea_i h (b0 + 0) 63)) (ea_i (ea_wi (ea_wi (ea_wi (ea_wi (ea_wi (ea_wi (ea_wi h (b0 + 0) 63 ((ea_i h (b0 + 0) 63) + (1 : Int32))) (b0 + 38) (Int32.toNatClampNeg (ea_i h (b0 + 0) 63)) x1) (b0 + 39) (Int32.toNatClampNeg (ea_i h (b0 + 0) 63)) x2) (b0 + 40) (Int32.toNatClampNeg (ea_i h (b0 + 0) 63)) x3) (b0 + 41) (Int32.toNatClampNeg (ea_i h (b0 + 0) 63)) x4) (b0 + 42) (Int32.toNatClampNeg (ea_i h (b0 + 0) 63)) x5) (b0 + 43) (Int32.toNatClampNeg (ea_i h (b0 + 0) 63)) x6) (b0 + 0) 0))) (b0 + 45) (Int32.toNatClampNeg (ea_i h (b0 + 0) 63)) (vX12_milesOf b0 (x2 : Int32) (x3 : Int32) (0 : Int32) (ea_wi (ea_wi (ea_wi (ea_wi (ea_wi (ea_wi (ea_wi (ea_wi h (b0 + 0) 63 ((ea_i h (b0 + 0) 63) + (1 : Int32))) (b0 + 38) (Int32.toNatClampNeg (ea_i h (b0 + 0) 63)) x1) (b0 + 39) (Int32.toNatClampNeg (ea_i h (b0 + 0) 63)) x2) (b0 + 40) (Int32.toNatClampNeg (ea_i h (b0 + 0) 63)) x3) (b0 + 41) (Int32.toNatClampNeg (ea_i h (b0 + 0) 63)) x4) (b0 + 42) (Int32.toNatClampNeg (ea_i h (b0 + 0) 63)) x5) (b0 + 43) (Int32.toNatClampNeg (ea_i h (b0 + 0) 63)) x6) (b0 + 44) (Int32.toNatClampNeg (ea_i h (b0 + 0) 63)) (ea_i (ea_wi (ea_wi (ea_wi (ea_wi (ea_wi (ea_wi (ea_wi h (b0 + 0) 63 ((ea_i h (b0 + 0) 63) + (1 : Int32))) (b0 + 38) (Int32.toNatClampNeg (ea_i h (b0 + 0) 63)) x1) (b0 + 39) (Int32.toNatClampNeg (ea_i h (b0 + 0) 63)) x2) (b0 + 40) (Int32.toNatClampNeg (ea_i h (b0 + 0) 63)) x3) (b0 + 41) (Int32.toNatClampNeg (ea_i h (b0 + 0) 63)) x4) (b0 + 42) (Int32.toNatClampNeg (ea_i h (b0 + 0) 63)) x5) (b0 + 43) (Int32.toNatClampNeg (ea_i h (b0 + 0) 63)) x6) (b0 + 0) 0)))))) (b0 + 46) (Int32.toNatClampNeg (ea_i h (b0 + 0) 63)) 0) := ShM_wi hs29
                      refine ea_iconst (pc := 187) dX12_post_187 (v := 0) rfl ?_
                      refine ea_istore (pc := 188) (lv' := [(0, vR (some (b0 + 0))), (2, vI x2), (6, vI x6), (7, vI (ea_i h (b0 + 0) 63)), (8, vI 0)]) dX12_post_188 (Nat.le_of_ble_eq_true rfl) [1, 3, 7, 8, 0] rfl ?_
                      exact ((ih 190 0 0 0 (x2 : Int32) 0 0 0 (x6 : Int32) ((ea_i h (b0 + 0) 63) : Int32) (0 : Int32) (ea_wi (ea_wi (wX12_isCross b0 (x2 : Int32) (x3 : Int32) (ea_wi (wX12_milesOf b0 (x2 : Int32) (x3 : Int32) (0 : Int32) (ea_wi (ea_wi (ea_wi (ea_wi (ea_wi (ea_wi (ea_wi (ea_wi h (b0 + 0) 63 ((ea_i h (b0 + 0) 63) + (1 : Int32))) (b0 + 38) (Int32.toNatClampNeg (ea_i h (b0 + 0) 63)) x1) (b0 + 39) (Int32.toNatClampNeg (ea_i h (b0 + 0) 63)) x2) (b0 + 40) (Int32.toNatClampNeg (ea_i h (b0 + 0) 63)) x3) (b0 + 41) (Int32.toNatClampNeg (ea_i h (b0 + 0) 63)) x4) (b0 + 42) (Int32.toNatClampNeg (ea_i h (b0 + 0) 63)) x5) (b0 + 43) (Int32.toNatClampNeg (ea_i h (b0 + 0) 63)) x6) (b0 + 44) (Int32.toNatClampNeg (ea_i h (b0 + 0) 63)) (ea_i (ea_wi (ea_wi (ea_wi (ea_wi (ea_wi (ea_wi (ea_wi h (b0 + 0) 63 ((ea_i h (b0 + 0) 63) + (1 : Int32))) (b0 + 38) (Int32.toNatClampNeg (ea_i h (b0 + 0) 63)) x1) (b0 + 39) (Int32.toNatClampNeg (ea_i h (b0 + 0) 63)) x2) (b0 + 40) (Int32.toNatClampNeg (ea_i h (b0 + 0) 63)) x3) (b0 + 41) (Int32.toNatClampNeg (ea_i h (b0 + 0) 63)) x4) (b0 + 42) (Int32.toNatClampNeg (ea_i h (b0 + 0) 63)) x5) (b0 + 43) (Int32.toNatClampNeg (ea_i h (b0 + 0) 63)) x6) (b0 + 0) 0))) (b0 + 45) (Int32.toNatClampNeg (ea_i h (b0 + 0) 63)) (vX12_milesOf b0 (x2 : Int32) (x3 : Int32) (0 : Int32) (ea_wi (ea_wi (ea_wi (ea_wi (ea_wi (ea_wi (ea_wi (ea_wi h (b0 + 0) 63 ((ea_i h (b0 + 0) 63) + (1 : Int32))) (b0 + 38) (Int32.toNatClampNeg (ea_i h (b0 + 0) 63)) x1) (b0 + 39) (Int32.toNatClampNeg (ea_i h (b0 + 0) 63)) x2) (b0 + 40) (Int32.toNatClampNeg (ea_i h (b0 + 0) 63)) x3) (b0 + 41) (Int32.toNatClampNeg (ea_i h (b0 + 0) 63)) x4) (b0 + 42) (Int32.toNatClampNeg (ea_i h (b0 + 0) 63)) x5) (b0 + 43) (Int32.toNatClampNeg (ea_i h (b0 + 0) 63)) x6) (b0 + 44) (Int32.toNatClampNeg (ea_i h (b0 + 0) 63)) (ea_i (ea_wi (ea_wi (ea_wi (ea_wi (ea_wi (ea_wi (ea_wi h (b0 + 0) 63 ((ea_i h (b0 + 0) 63) + (1 : Int32))) (b0 + 38) (Int32.toNatClampNeg (ea_i h (b0 + 0) 63)) x1) (b0 + 39) (Int32.toNatClampNeg (ea_i h (b0 + 0) 63)) x2) (b0 + 40) (Int32.toNatClampNeg (ea_i h (b0 + 0) 63)) x3) (b0 + 41) (Int32.toNatClampNeg (ea_i h (b0 + 0) 63)) x4) (b0 + 42) (Int32.toNatClampNeg (ea_i h (b0 + 0) 63)) x5) (b0 + 43) (Int32.toNatClampNeg (ea_i h (b0 + 0) 63)) x6) (b0 + 0) 0))))) (b0 + 52) (Int32.toNatClampNeg (ea_i h (b0 + 0) 63)) (vX12_isCross b0 (x2 : Int32) (x3 : Int32) (ea_wi (wX12_milesOf b0 (x2 : Int32) (x3 : Int32) (0 : Int32) (ea_wi (ea_wi (ea_wi (ea_wi (ea_wi (ea_wi (ea_wi (ea_wi h (b0 + 0) 63 ((ea_i h (b0 + 0) 63) + (1 : Int32))) (b0 + 38) (Int32.toNatClampNeg (ea_i h (b0 + 0) 63)) x1) (b0 + 39) (Int32.toNatClampNeg (ea_i h (b0 + 0) 63)) x2) (b0 + 40) (Int32.toNatClampNeg (ea_i h (b0 + 0) 63)) x3) (b0 + 41) (Int32.toNatClampNeg (ea_i h (b0 + 0) 63)) x4) (b0 + 42) (Int32.toNatClampNeg (ea_i h (b0 + 0) 63)) x5) (b0 + 43) (Int32.toNatClampNeg (ea_i h (b0 + 0) 63)) x6) (b0 + 44) (Int32.toNatClampNeg (ea_i h (b0 + 0) 63)) (ea_i (ea_wi (ea_wi (ea_wi (ea_wi (ea_wi (ea_wi (ea_wi h (b0 + 0) 63 ((ea_i h (b0 + 0) 63) + (1 : Int32))) (b0 + 38) (Int32.toNatClampNeg (ea_i h (b0 + 0) 63)) x1) (b0 + 39) (Int32.toNatClampNeg (ea_i h (b0 + 0) 63)) x2) (b0 + 40) (Int32.toNatClampNeg (ea_i h (b0 + 0) 63)) x3) (b0 + 41) (Int32.toNatClampNeg (ea_i h (b0 + 0) 63)) x4) (b0 + 42) (Int32.toNatClampNeg (ea_i h (b0 + 0) 63)) x5) (b0 + 43) (Int32.toNatClampNeg (ea_i h (b0 + 0) 63)) x6) (b0 + 0) 0))) (b0 + 45) (Int32.toNatClampNeg (ea_i h (b0 + 0) 63)) (vX12_milesOf b0 (x2 : Int32) (x3 : Int32) (0 : Int32) (ea_wi (ea_wi (ea_wi (ea_wi (ea_wi (ea_wi (ea_wi (ea_wi h (b0 + 0) 63 ((ea_i h (b0 + 0) 63) + (1 : Int32))) (b0 + 38) (Int32.toNatClampNeg (ea_i h (b0 + 0) 63)) x1) (b0 + 39) (Int32.toNatClampNeg (ea_i h (b0 + 0) 63)) x2) (b0 + 40) (Int32.toNatClampNeg (ea_i h (b0 + 0) 63)) x3) (b0 + 41) (Int32.toNatClampNeg (ea_i h (b0 + 0) 63)) x4) (b0 + 42) (Int32.toNatClampNeg (ea_i h (b0 + 0) 63)) x5) (b0 + 43) (Int32.toNatClampNeg (ea_i h (b0 + 0) 63)) x6) (b0 + 44) (Int32.toNatClampNeg (ea_i h (b0 + 0) 63)) (ea_i (ea_wi (ea_wi (ea_wi (ea_wi (ea_wi (ea_wi (ea_wi h (b0 + 0) 63 ((ea_i h (b0 + 0) 63) + (1 : Int32))) (b0 + 38) (Int32.toNatClampNeg (ea_i h (b0 + 0) 63)) x1) (b0 + 39) (Int32.toNatClampNeg (ea_i h (b0 + 0) 63)) x2) (b0 + 40) (Int32.toNatClampNeg (ea_i h (b0 + 0) 63)) x3) (b0 + 41) (Int32.toNatClampNeg (ea_i h (b0 + 0) 63)) x4) (b0 + 42) (Int32.toNatClampNeg (ea_i h (b0 + 0) 63)) x5) (b0 + 43) (Int32.toNatClampNeg (ea_i h (b0 + 0) 63)) x6) (b0 + 0) 0)))))) (b0 + 46) (Int32.toNatClampNeg (ea_i h (b0 + 0) 63)) 0) _ _ E hs32).2.1 rfl)
                    · have E := (if_pos c33).symm.trans E
                      refine ea_iconst (pc := 72) dX12_post_72 (v := (-1)) rfl ?_
                      exact ea_iretO (pc := 73) dX12_post_73 rfl rfl E
    refine ⟨?_, ?_⟩
    · intro el
      subst el
      have E := (if_neg (by decide)).symm.trans E
      have E := (if_pos rfl).symm.trans E
      refine ea_iload (pc := 190) dX12_post_190 4 rfl ?_
      refine ea_iload (pc := 192) dX12_post_192 3 rfl ?_
      refine ea_icmp_gt (pc := 194) (tgt := 263) dX12_post_194 rfl (fun c65 => ?_) (fun c65 => ?_)
      · have E := (if_pos c65).symm.trans E
        refine ea_aload_n (pc := 263) dX12_post_263 rfl 0 rfl ?_
        refine ea_getR (pc := 264) dX12_post_264 ec_12 (k := 73) (Nat.le_of_ble_eq_true rfl) rfl (Or.inl ew_1418) (hs.1 0 (by decide)).1 (hs.1 0 (by decide)).2.1 (hs.2 0 73 rfl) ?_
        refine ea_iload (pc := 267) dX12_post_267 3 rfl ?_
        refine ea_aload_n (pc := 269) dX12_post_269 rfl 0 rfl ?_
        refine ea_aload_n (pc := 270) dX12_post_270 rfl 0 rfl ?_
        refine ea_getI (pc := 271) dX12_post_271 ec_12 (k := 0) (Nat.le_of_ble_eq_true rfl) rfl (Or.inl ew_1345) (hs.1 0 (by decide)).1 (hs.1 0 (by decide)).2.1 ?_
        refine ea_sipush (pc := 274) dX12_post_274 (v := 1440) rfl ?_
        refine ea_idiv (pc := 277) dX12_post_277 (by decide) ?_
        obtain ⟨z41, E⟩ := gd_some E
        refine ea_callV (pc := 278) (d' := d - 1) (As := [vI ((ea_i h (b0 + 0) 0) / (1440 : Int32))]) (st := [vI x7, vR (some (b0 + 47))]) dX12_post_278 kX12_actOn (sX12_actOn (d := d - 1) (by omega) hs z41) (by omega) rfl (Nat.le_of_ble_eq_true rfl) ew_1975 ew_1977 ew_81 (ci := 12) rfl (by decide) (hs.1 0 (by decide)).1 (hs.1 0 (by decide)).2.1 ?_
        have hs42 : ShM b0 (wX12_actOn b0 (((ea_i h (b0 + 0) 0) / (1440 : Int32)) : Int32) h) := shX12_actOn hs
        obtain ⟨z43, E⟩ := gd_some E
        refine ea_iast (pc := 281) dX12_post_281 (hs42.1 47 (by decide)).1 (hs42.1 47 (by decide)).2.1 (ea_vpl (hs42.1 47 (by decide)).2.2 z43) ?_
        have hs44 : ShM b0 (ea_wi (wX12_actOn b0 (((ea_i h (b0 + 0) 0) / (1440 : Int32)) : Int32) h) (b0 + 47) (Int32.toNatClampNeg x7) (vX12_actOn b0 (((ea_i h (b0 + 0) 0) / (1440 : Int32)) : Int32) h)) := ShM_wi hs42
        refine ea_aload_n (pc := 282) dX12_post_282 rfl 0 rfl ?_
        refine ea_getR (pc := 283) dX12_post_283 ec_12 (k := 79) (Nat.le_of_ble_eq_true rfl) rfl (Or.inl ew_1424) (hs44.1 0 (by decide)).1 (hs44.1 0 (by decide)).2.1 (hs44.2 0 79 rfl) ?_
        refine ea_iload (pc := 286) dX12_post_286 3 rfl ?_
        refine ea_aload_n (pc := 288) dX12_post_288 rfl 0 rfl ?_
        refine ea_getR (pc := 289) dX12_post_289 ec_12 (k := 73) (Nat.le_of_ble_eq_true rfl) rfl (Or.inl ew_1418) (hs44.1 0 (by decide)).1 (hs44.1 0 (by decide)).2.1 (hs44.2 0 73 rfl) ?_
        refine ea_iload (pc := 292) dX12_post_292 3 rfl ?_
        obtain ⟨z45, E⟩ := gd_some E
        refine ea_iald (pc := 294) dX12_post_294 (hs44.1 47 (by decide)).1 (hs44.1 47 (by decide)).2.1 (ea_vpl (hs44.1 47 (by decide)).2.2 z45) ?_
        refine ea_iconst (pc := 295) dX12_post_295 (v := (-1)) rfl ?_
        refine ea_icmp_eq (pc := 296) (tgt := 319) dX12_post_296 rfl (fun c49 => ?_) (fun c49 => ?_)
        · have E := (if_pos c49).symm.trans E
          refine ea_iconst (pc := 319) dX12_post_319 (v := 0) rfl ?_
          exact (ea_fewer [0, 1, 3] rfl ((ih 320 (0 : Int32) (x7 : Int32) 0 (x2 : Int32) 0 0 0 0 (x7 : Int32) 0 (ea_wi (wX12_actOn b0 (((ea_i h (b0 + 0) 0) / (1440 : Int32)) : Int32) h) (b0 + 47) (Int32.toNatClampNeg x7) (vX12_actOn b0 (((ea_i h (b0 + 0) 0) / (1440 : Int32)) : Int32) h)) _ _ E hs44).2.2.1 rfl))
        · have E := (if_neg c49).symm.trans E
          refine ea_aload_n (pc := 299) dX12_post_299 rfl 0 rfl ?_
          refine ea_iload (pc := 300) dX12_post_300 3 rfl ?_
          refine ea_aload_n (pc := 302) dX12_post_302 rfl 0 rfl ?_
          refine ea_getR (pc := 303) dX12_post_303 ec_12 (k := 73) (Nat.le_of_ble_eq_true rfl) rfl (Or.inl ew_1418) (hs44.1 0 (by decide)).1 (hs44.1 0 (by decide)).2.1 (hs44.2 0 73 rfl) ?_
          refine ea_iload (pc := 306) dX12_post_306 3 rfl ?_
          obtain ⟨z46, E⟩ := gd_some E
          refine ea_iald (pc := 308) dX12_post_308 (hs44.1 47 (by decide)).1 (hs44.1 47 (by decide)).2.1 (ea_vpl (hs44.1 47 (by decide)).2.2 z46) ?_
          obtain ⟨z47, E⟩ := gd_some E
          refine ea_callV (pc := 309) (d' := d - 1) (As := [vI x7, vI (ea_i (ea_wi (wX12_actOn b0 (((ea_i h (b0 + 0) 0) / (1440 : Int32)) : Int32) h) (b0 + 47) (Int32.toNatClampNeg x7) (vX12_actOn b0 (((ea_i h (b0 + 0) 0) / (1440 : Int32)) : Int32) h)) (b0 + 47) (Int32.toNatClampNeg x7))]) (st := [vI x7, vR (some (b0 + 53))]) dX12_post_309 kX12_isFree (sX12_isFree (d := d - 1) (by omega) hs44 z47) (by omega) rfl (Nat.le_of_ble_eq_true rfl) ew_1987 ew_1989 ew_83 (ci := 12) rfl (by decide) (hs44.1 0 (by decide)).1 (hs44.1 0 (by decide)).2.1 ?_
          refine ea_if_eq (pc := 312) (tgt := 319) dX12_post_312 rfl (fun c48 => ?_) (fun c48 => ?_)
          · have E := (if_pos c48).symm.trans E
            refine ea_iconst (pc := 319) dX12_post_319 (v := 0) rfl ?_
            exact (ea_fewer [0, 1, 3] rfl ((ih 320 (0 : Int32) (x7 : Int32) 0 (x2 : Int32) 0 0 0 0 (x7 : Int32) 0 (ea_wi (wX12_actOn b0 (((ea_i h (b0 + 0) 0) / (1440 : Int32)) : Int32) h) (b0 + 47) (Int32.toNatClampNeg x7) (vX12_actOn b0 (((ea_i h (b0 + 0) 0) / (1440 : Int32)) : Int32) h)) _ _ E hs44).2.2.1 rfl))
          · have E := (if_neg c48).symm.trans E
            refine ea_iconst (pc := 315) dX12_post_315 (v := 1) rfl ?_
            refine ea_goto (pc := 316) (tgt := 320) dX12_post_316 rfl ?_
            exact (ea_fewer [0, 1, 3] rfl ((ih 320 (1 : Int32) (x7 : Int32) 0 (x2 : Int32) 0 0 0 0 (x7 : Int32) 0 (ea_wi (wX12_actOn b0 (((ea_i h (b0 + 0) 0) / (1440 : Int32)) : Int32) h) (b0 + 47) (Int32.toNatClampNeg x7) (vX12_actOn b0 (((ea_i h (b0 + 0) 0) / (1440 : Int32)) : Int32) h)) _ _ E hs44).2.2.1 rfl))
      · have E := (if_neg c65).symm.trans E
        refine ea_aload_n (pc := 197) dX12_post_197 rfl 0 rfl ?_
        refine ea_getR (pc := 198) dX12_post_198 ec_12 (k := 72) (Nat.le_of_ble_eq_true rfl) rfl (Or.inl ew_1417) (hs.1 0 (by decide)).1 (hs.1 0 (by decide)).2.1 (hs.2 0 72 rfl) ?_
        refine ea_iload (pc := 201) dX12_post_201 3 rfl ?_
        refine ea_dup2 (pc := 203) dX12_post_203 rfl rfl ?_
        obtain ⟨z50, E⟩ := gd_some E
        refine ea_iald (pc := 204) dX12_post_204 (hs.1 46 (by decide)).1 (hs.1 46 (by decide)).2.1 (ea_vpl (hs.1 46 (by decide)).2.2 z50) ?_
        refine ea_aload_n (pc := 205) dX12_post_205 rfl 0 rfl ?_
        refine ea_getR (pc := 206) dX12_post_206 ec_12 (k := 64) (Nat.le_of_ble_eq_true rfl) rfl (Or.inl ew_1409) (hs.1 0 (by decide)).1 (hs.1 0 (by decide)).2.1 (hs.2 0 64 rfl) ?_
        refine ea_iload (pc := 209) dX12_post_209 4 rfl ?_
        obtain ⟨z51, E⟩ := gd_some E
        refine ea_iald (pc := 211) dX12_post_211 (hs.1 38 (by decide)).1 (hs.1 38 (by decide)).2.1 (ea_vpl (hs.1 38 (by decide)).2.2 z51) ?_
        refine ea_iconst (pc := 212) dX12_post_212 (v := 2) rfl ?_
        refine ea_icmp_ne (pc := 213) (tgt := 254) dX12_post_213 rfl (fun c64 => ?_) (fun c64 => ?_)
        · have E := (if_neg c64).symm.trans E
          refine ea_iconst (pc := 254) dX12_post_254 (v := 0) rfl ?_
          refine ea_iadd (pc := 255) dX12_post_255 ?_
          obtain ⟨z52, E⟩ := gd_some E
          refine ea_iast (pc := 256) dX12_post_256 (hs.1 46 (by decide)).1 (hs.1 46 (by decide)).2.1 (ea_vpl (hs.1 46 (by decide)).2.2 z52) ?_
          have hs53 : ShM b0 (ea_wi h (b0 + 46) (Int32.toNatClampNeg x7) ((ea_i h (b0 + 46) (Int32.toNatClampNeg x7)) + (0 : Int32))) := ShM_wi hs
          refine ea_iinc (pc := 257) (v := 1) (lv' := [(0, vR (some (b0 + 0))), (2, vI x2), (6, vI x6), (7, vI x7), (8, vI (x8 + (1 : Int32)))]) dX12_post_257 4 rfl rfl (Nat.le_of_ble_eq_true rfl) [1, 2, 3, 4, 0] rfl ?_
          refine ea_goto (pc := 260) (tgt := 190) dX12_post_260 rfl ?_
          exact ((ih 190 0 0 0 (x2 : Int32) 0 0 0 (x6 : Int32) (x7 : Int32) ((x8 + (1 : Int32)) : Int32) (ea_wi h (b0 + 46) (Int32.toNatClampNeg x7) ((ea_i h (b0 + 46) (Int32.toNatClampNeg x7)) + (0 : Int32))) _ _ E hs53).2.1 rfl)
        · have E := (if_pos c64).symm.trans E
          refine ea_aload_n (pc := 216) dX12_post_216 rfl 0 rfl ?_
          refine ea_getR (pc := 217) dX12_post_217 ec_12 (k := 69) (Nat.le_of_ble_eq_true rfl) rfl (Or.inl ew_1414) (hs.1 0 (by decide)).1 (hs.1 0 (by decide)).2.1 (hs.2 0 69 rfl) ?_
          refine ea_iload (pc := 220) dX12_post_220 4 rfl ?_
          obtain ⟨z54, E⟩ := gd_some E
          refine ea_iald (pc := 222) dX12_post_222 (hs.1 43 (by decide)).1 (hs.1 43 (by decide)).2.1 (ea_vpl (hs.1 43 (by decide)).2.2 z54) ?_
          refine ea_iload (pc := 223) dX12_post_223 2 rfl ?_
          refine ea_icmp_ne (pc := 225) (tgt := 254) dX12_post_225 rfl (fun c63 => ?_) (fun c63 => ?_)
          · have E := (if_neg c63).symm.trans E
            refine ea_iconst (pc := 254) dX12_post_254 (v := 0) rfl ?_
            refine ea_iadd (pc := 255) dX12_post_255 ?_
            obtain ⟨z55, E⟩ := gd_some E
            refine ea_iast (pc := 256) dX12_post_256 (hs.1 46 (by decide)).1 (hs.1 46 (by decide)).2.1 (ea_vpl (hs.1 46 (by decide)).2.2 z55) ?_
            have hs56 : ShM b0 (ea_wi h (b0 + 46) (Int32.toNatClampNeg x7) ((ea_i h (b0 + 46) (Int32.toNatClampNeg x7)) + (0 : Int32))) := ShM_wi hs
            refine ea_iinc (pc := 257) (v := 1) (lv' := [(0, vR (some (b0 + 0))), (2, vI x2), (6, vI x6), (7, vI x7), (8, vI (x8 + (1 : Int32)))]) dX12_post_257 4 rfl rfl (Nat.le_of_ble_eq_true rfl) [1, 2, 3, 4, 0] rfl ?_
            refine ea_goto (pc := 260) (tgt := 190) dX12_post_260 rfl ?_
            exact ((ih 190 0 0 0 (x2 : Int32) 0 0 0 (x6 : Int32) (x7 : Int32) ((x8 + (1 : Int32)) : Int32) (ea_wi h (b0 + 46) (Int32.toNatClampNeg x7) ((ea_i h (b0 + 46) (Int32.toNatClampNeg x7)) + (0 : Int32))) _ _ E hs56).2.1 rfl)
          · have E := (if_pos c63).symm.trans E
            refine ea_aload_n (pc := 228) dX12_post_228 rfl 0 rfl ?_
            refine ea_getR (pc := 229) dX12_post_229 ec_12 (k := 70) (Nat.le_of_ble_eq_true rfl) rfl (Or.inl ew_1415) (hs.1 0 (by decide)).1 (hs.1 0 (by decide)).2.1 (hs.2 0 70 rfl) ?_
            refine ea_iload (pc := 232) dX12_post_232 4 rfl ?_
            obtain ⟨z57, E⟩ := gd_some E
            refine ea_iald (pc := 234) dX12_post_234 (hs.1 44 (by decide)).1 (hs.1 44 (by decide)).2.1 (ea_vpl (hs.1 44 (by decide)).2.2 z57) ?_
            refine ea_sipush (pc := 235) dX12_post_235 (v := 1440) rfl ?_
            refine ea_idiv (pc := 238) dX12_post_238 (by decide) ?_
            refine ea_aload_n (pc := 239) dX12_post_239 rfl 0 rfl ?_
            refine ea_getI (pc := 240) dX12_post_240 ec_12 (k := 0) (Nat.le_of_ble_eq_true rfl) rfl (Or.inl ew_1345) (hs.1 0 (by decide)).1 (hs.1 0 (by decide)).2.1 ?_
            refine ea_sipush (pc := 243) dX12_post_243 (v := 1440) rfl ?_
            refine ea_idiv (pc := 246) dX12_post_246 (by decide) ?_
            refine ea_icmp_ne (pc := 247) (tgt := 254) dX12_post_247 rfl (fun c62 => ?_) (fun c62 => ?_)
            · have E := (if_neg c62).symm.trans E
              refine ea_iconst (pc := 254) dX12_post_254 (v := 0) rfl ?_
              refine ea_iadd (pc := 255) dX12_post_255 ?_
              obtain ⟨z58, E⟩ := gd_some E
              refine ea_iast (pc := 256) dX12_post_256 (hs.1 46 (by decide)).1 (hs.1 46 (by decide)).2.1 (ea_vpl (hs.1 46 (by decide)).2.2 z58) ?_
              have hs59 : ShM b0 (ea_wi h (b0 + 46) (Int32.toNatClampNeg x7) ((ea_i h (b0 + 46) (Int32.toNatClampNeg x7)) + (0 : Int32))) := ShM_wi hs
              refine ea_iinc (pc := 257) (v := 1) (lv' := [(0, vR (some (b0 + 0))), (2, vI x2), (6, vI x6), (7, vI x7), (8, vI (x8 + (1 : Int32)))]) dX12_post_257 4 rfl rfl (Nat.le_of_ble_eq_true rfl) [1, 2, 3, 4, 0] rfl ?_
              refine ea_goto (pc := 260) (tgt := 190) dX12_post_260 rfl ?_
              exact ((ih 190 0 0 0 (x2 : Int32) 0 0 0 (x6 : Int32) (x7 : Int32) ((x8 + (1 : Int32)) : Int32) (ea_wi h (b0 + 46) (Int32.toNatClampNeg x7) ((ea_i h (b0 + 46) (Int32.toNatClampNeg x7)) + (0 : Int32))) _ _ E hs59).2.1 rfl)
            · have E := (if_pos c62).symm.trans E
              refine ea_iconst (pc := 250) dX12_post_250 (v := 1) rfl ?_
              refine ea_goto (pc := 251) (tgt := 255) dX12_post_251 rfl ?_
              refine ea_iadd (pc := 255) dX12_post_255 ?_
              obtain ⟨z60, E⟩ := gd_some E
              refine ea_iast (pc := 256) dX12_post_256 (hs.1 46 (by decide)).1 (hs.1 46 (by decide)).2.1 (ea_vpl (hs.1 46 (by decide)).2.2 z60) ?_
              have hs61 : ShM b0 (ea_wi h (b0 + 46) (Int32.toNatClampNeg x7) ((ea_i h (b0 + 46) (Int32.toNatClampNeg x7)) + (1 : Int32))) := ShM_wi hs
              refine ea_iinc (pc := 257) (v := 1) (lv' := [(0, vR (some (b0 + 0))), (2, vI x2), (6, vI x6), (7, vI x7), (8, vI (x8 + (1 : Int32)))]) dX12_post_257 4 rfl rfl (Nat.le_of_ble_eq_true rfl) [1, 2, 3, 4, 0] rfl ?_
              refine ea_goto (pc := 260) (tgt := 190) dX12_post_260 rfl ?_
              exact ((ih 190 0 0 0 (x2 : Int32) 0 0 0 (x6 : Int32) (x7 : Int32) ((x8 + (1 : Int32)) : Int32) (ea_wi h (b0 + 46) (Int32.toNatClampNeg x7) ((ea_i h (b0 + 46) (Int32.toNatClampNeg x7)) + (1 : Int32))) _ _ E hs61).2.1 rfl)
    refine ⟨?_, ?_⟩
    · intro el
      subst el
      have E := (if_neg (by decide)).symm.trans E
      have E := (if_neg (by decide)).symm.trans E
      have E := (if_pos rfl).symm.trans E
      obtain ⟨z66, E⟩ := gd_some E
      obtain ⟨z68, E⟩ := gd_some E
      refine ea_zast (pc := 320) dX12_post_320 (y := sx0) (ea_bn z68) (hs.1 53 (by decide)).1 (hs.1 53 (by decide)).2.1 (ea_vpl (hs.1 53 (by decide)).2.2 z66) ?_
      have hs67 : ShM b0 (ea_wi h (b0 + 53) (Int32.toNatClampNeg sx1) sx0) := ShM_wi hs
      refine ea_aload_n (pc := 321) dX12_post_321 rfl 0 rfl ?_
      refine ea_getR (pc := 322) dX12_post_322 ec_12 (k := 74) (Nat.le_of_ble_eq_true rfl) rfl (Or.inl ew_1419) (hs67.1 0 (by decide)).1 (hs67.1 0 (by decide)).2.1 (hs67.2 0 74 rfl) ?_
      refine ea_iload (pc := 325) dX12_post_325 2 rfl ?_
      refine ea_aload_n (pc := 327) dX12_post_327 rfl 0 rfl ?_
      refine ea_getR (pc := 328) dX12_post_328 ec_12 (k := 73) (Nat.le_of_ble_eq_true rfl) rfl (Or.inl ew_1418) (hs67.1 0 (by decide)).1 (hs67.1 0 (by decide)).2.1 (hs67.2 0 73 rfl) ?_
      refine ea_iload (pc := 331) dX12_post_331 2 rfl ?_
      obtain ⟨z69, E⟩ := gd_some E
      refine ea_iald (pc := 333) dX12_post_333 (hs67.1 47 (by decide)).1 (hs67.1 47 (by decide)).2.1 (ea_vpl (hs67.1 47 (by decide)).2.2 z69) ?_
      refine ea_iconst (pc := 334) dX12_post_334 (v := (-1)) rfl ?_
      refine ea_icmp_ne (pc := 335) (tgt := 342) dX12_post_335 rfl (fun c73 => ?_) (fun c73 => ?_)
      · have E := (if_neg c73).symm.trans E
        refine ea_aload_n (pc := 342) dX12_post_342 rfl 0 rfl ?_
        refine ea_iload (pc := 343) dX12_post_343 2 rfl ?_
        refine ea_aload_n (pc := 345) dX12_post_345 rfl 0 rfl ?_
        refine ea_getR (pc := 346) dX12_post_346 ec_12 (k := 73) (Nat.le_of_ble_eq_true rfl) rfl (Or.inl ew_1418) (hs67.1 0 (by decide)).1 (hs67.1 0 (by decide)).2.1 (hs67.2 0 73 rfl) ?_
        refine ea_iload (pc := 349) dX12_post_349 2 rfl ?_
        obtain ⟨z70, E⟩ := gd_some E
        refine ea_iald (pc := 351) dX12_post_351 (hs67.1 47 (by decide)).1 (hs67.1 47 (by decide)).2.1 (ea_vpl (hs67.1 47 (by decide)).2.2 z70) ?_
        obtain ⟨z71, E⟩ := gd_some E
        refine ea_callV (pc := 352) (d' := d - 1) (As := [vI x7, vI (ea_i (ea_wi h (b0 + 53) (Int32.toNatClampNeg sx1) sx0) (b0 + 47) (Int32.toNatClampNeg x7))]) (st := [vI x7, vR (some (b0 + 48))]) dX12_post_352 kX12_chargeBy (sX12_chargeBy (d := d - 1) (by omega) hs67 z71) (by omega) rfl (Nat.le_of_ble_eq_true rfl) ew_1991 ew_1993 ew_84 (ci := 12) rfl (by decide) (hs67.1 0 (by decide)).1 (hs67.1 0 (by decide)).2.1 ?_
        have hs72 : ShM b0 (wX12_chargeBy b0 (x7 : Int32) ((ea_i (ea_wi h (b0 + 53) (Int32.toNatClampNeg sx1) sx0) (b0 + 47) (Int32.toNatClampNeg x7)) : Int32) (ea_wi h (b0 + 53) (Int32.toNatClampNeg sx1) sx0)) := shX12_chargeBy hs67
        exact ((ih 355 ((vX12_chargeBy b0 (x7 : Int32) ((ea_i (ea_wi h (b0 + 53) (Int32.toNatClampNeg sx1) sx0) (b0 + 47) (Int32.toNatClampNeg x7)) : Int32) (ea_wi h (b0 + 53) (Int32.toNatClampNeg sx1) sx0)) : Int32) (x7 : Int32) 0 (x2 : Int32) 0 0 0 0 (x7 : Int32) 0 (wX12_chargeBy b0 (x7 : Int32) ((ea_i (ea_wi h (b0 + 53) (Int32.toNatClampNeg sx1) sx0) (b0 + 47) (Int32.toNatClampNeg x7)) : Int32) (ea_wi h (b0 + 53) (Int32.toNatClampNeg sx1) sx0)) _ _ E hs72).2.2.2.1 rfl)
      · have E := (if_pos c73).symm.trans E
        refine ea_iconst (pc := 338) dX12_post_338 (v := 0) rfl ?_
        refine ea_goto (pc := 339) (tgt := 355) dX12_post_339 rfl ?_
        exact ((ih 355 (0 : Int32) (x7 : Int32) 0 (x2 : Int32) 0 0 0 0 (x7 : Int32) 0 (ea_wi h (b0 + 53) (Int32.toNatClampNeg sx1) sx0) _ _ E hs67).2.2.2.1 rfl)
    refine ⟨?_, ?_⟩
    · intro el
      subst el
      have E := (if_neg (by decide)).symm.trans E
      have E := (if_neg (by decide)).symm.trans E
      have E := (if_neg (by decide)).symm.trans E
      have E := (if_pos rfl).symm.trans E
      obtain ⟨z74, E⟩ := gd_some E
      refine ea_iast (pc := 355) dX12_post_355 (hs.1 48 (by decide)).1 (hs.1 48 (by decide)).2.1 (ea_vpl (hs.1 48 (by decide)).2.2 z74) ?_
      have hs75 : ShM b0 (ea_wi h (b0 + 48) (Int32.toNatClampNeg sx1) sx0) := ShM_wi hs
      refine ea_aload_n (pc := 356) dX12_post_356 rfl 0 rfl ?_
      refine ea_getR (pc := 357) dX12_post_357 ec_12 (k := 75) (Nat.le_of_ble_eq_true rfl) rfl (Or.inl ew_1420) (hs75.1 0 (by decide)).1 (hs75.1 0 (by decide)).2.1 (hs75.2 0 75 rfl) ?_
      refine ea_iload (pc := 360) dX12_post_360 2 rfl ?_
      refine ea_aload_n (pc := 362) dX12_post_362 rfl 0 rfl ?_
      refine ea_getR (pc := 363) dX12_post_363 ec_12 (k := 73) (Nat.le_of_ble_eq_true rfl) rfl (Or.inl ew_1418) (hs75.1 0 (by decide)).1 (hs75.1 0 (by decide)).2.1 (hs75.2 0 73 rfl) ?_
      refine ea_iload (pc := 366) dX12_post_366 2 rfl ?_
      obtain ⟨z76, E⟩ := gd_some E
      refine ea_iald (pc := 368) dX12_post_368 (hs75.1 47 (by decide)).1 (hs75.1 47 (by decide)).2.1 (ea_vpl (hs75.1 47 (by decide)).2.2 z76) ?_
      refine ea_iconst (pc := 369) dX12_post_369 (v := (-1)) rfl ?_
      refine ea_icmp_ne (pc := 370) (tgt := 377) dX12_post_370 rfl (fun c80 => ?_) (fun c80 => ?_)
      · have E := (if_neg c80).symm.trans E
        refine ea_aload_n (pc := 377) dX12_post_377 rfl 0 rfl ?_
        refine ea_iload (pc := 378) dX12_post_378 2 rfl ?_
        refine ea_aload_n (pc := 380) dX12_post_380 rfl 0 rfl ?_
        refine ea_getR (pc := 381) dX12_post_381 ec_12 (k := 73) (Nat.le_of_ble_eq_true rfl) rfl (Or.inl ew_1418) (hs75.1 0 (by decide)).1 (hs75.1 0 (by decide)).2.1 (hs75.2 0 73 rfl) ?_
        refine ea_iload (pc := 384) dX12_post_384 2 rfl ?_
        obtain ⟨z77, E⟩ := gd_some E
        refine ea_iald (pc := 386) dX12_post_386 (hs75.1 47 (by decide)).1 (hs75.1 47 (by decide)).2.1 (ea_vpl (hs75.1 47 (by decide)).2.2 z77) ?_
        obtain ⟨z78, E⟩ := gd_some E
        refine ea_callV (pc := 387) (d' := d - 1) (As := [vI x7, vI (ea_i (ea_wi h (b0 + 48) (Int32.toNatClampNeg sx1) sx0) (b0 + 47) (Int32.toNatClampNeg x7))]) (st := [vI x7, vR (some (b0 + 49))]) dX12_post_387 kX12_lineOf (sX12_lineOf (d := d - 1) (by omega) hs75 z78) (by omega) rfl (Nat.le_of_ble_eq_true rfl) ew_1995 ew_1997 ew_85 (ci := 12) rfl (by decide) (hs75.1 0 (by decide)).1 (hs75.1 0 (by decide)).2.1 ?_
        have hs79 : ShM b0 (wX12_lineOf b0 (x7 : Int32) ((ea_i (ea_wi h (b0 + 48) (Int32.toNatClampNeg sx1) sx0) (b0 + 47) (Int32.toNatClampNeg x7)) : Int32) (ea_wi h (b0 + 48) (Int32.toNatClampNeg sx1) sx0)) := shX12_lineOf hs75
        exact ((ih 390 ((vX12_lineOf b0 (x7 : Int32) ((ea_i (ea_wi h (b0 + 48) (Int32.toNatClampNeg sx1) sx0) (b0 + 47) (Int32.toNatClampNeg x7)) : Int32) (ea_wi h (b0 + 48) (Int32.toNatClampNeg sx1) sx0)) : Int32) (x7 : Int32) 0 (x2 : Int32) 0 0 0 0 (x7 : Int32) 0 (wX12_lineOf b0 (x7 : Int32) ((ea_i (ea_wi h (b0 + 48) (Int32.toNatClampNeg sx1) sx0) (b0 + 47) (Int32.toNatClampNeg x7)) : Int32) (ea_wi h (b0 + 48) (Int32.toNatClampNeg sx1) sx0)) _ _ E hs79).2.2.2.2 rfl)
      · have E := (if_pos c80).symm.trans E
        refine ea_iconst (pc := 373) dX12_post_373 (v := (-1)) rfl ?_
        refine ea_goto (pc := 374) (tgt := 390) dX12_post_374 rfl ?_
        exact ((ih 390 ((-1) : Int32) (x7 : Int32) 0 (x2 : Int32) 0 0 0 0 (x7 : Int32) 0 (ea_wi h (b0 + 48) (Int32.toNatClampNeg sx1) sx0) _ _ E hs75).2.2.2.2 rfl)
    intro el
    subst el
    have E := (if_neg (by decide)).symm.trans E
    have E := (if_neg (by decide)).symm.trans E
    have E := (if_neg (by decide)).symm.trans E
    have E := (if_neg (by decide)).symm.trans E
    have E := (if_pos rfl).symm.trans E
    obtain ⟨z81, E⟩ := gd_some E
    refine ea_iast (pc := 390) dX12_post_390 (hs.1 49 (by decide)).1 (hs.1 49 (by decide)).2.1 (ea_vpl (hs.1 49 (by decide)).2.2 z81) ?_
    have hs82 : ShM b0 (ea_wi h (b0 + 49) (Int32.toNatClampNeg sx1) sx0) := ShM_wi hs
    refine ea_aload_n (pc := 391) dX12_post_391 rfl 0 rfl ?_
    refine ea_getR (pc := 392) dX12_post_392 ec_12 (k := 83) (Nat.le_of_ble_eq_true rfl) rfl (Or.inl ew_1428) (hs82.1 0 (by decide)).1 (hs82.1 0 (by decide)).2.1 (hs82.2 0 83 rfl) ?_
    refine ea_iload (pc := 395) dX12_post_395 2 rfl ?_
    refine ea_iconst (pc := 397) dX12_post_397 (v := (-1)) rfl ?_
    obtain ⟨z83, E⟩ := gd_some E
    refine ea_iast (pc := 398) dX12_post_398 (hs82.1 57 (by decide)).1 (hs82.1 57 (by decide)).2.1 (ea_vpl (hs82.1 57 (by decide)).2.2 z83) ?_
    have hs84 : ShM b0 (ea_wi (ea_wi h (b0 + 49) (Int32.toNatClampNeg sx1) sx0) (b0 + 57) (Int32.toNatClampNeg x7) (-1)) := ShM_wi hs82
    refine ea_aload_n (pc := 399) dX12_post_399 rfl 0 rfl ?_
    refine ea_iload (pc := 400) dX12_post_400 2 rfl ?_
    refine ea_aload_n (pc := 402) dX12_post_402 rfl 0 rfl ?_
    refine ea_getI (pc := 403) dX12_post_403 ec_12 (k := 0) (Nat.le_of_ble_eq_true rfl) rfl (Or.inl ew_1345) (hs84.1 0 (by decide)).1 (hs84.1 0 (by decide)).2.1 ?_
    refine ea_iconst (pc := 406) dX12_post_406 (v := 0) rfl ?_
    refine ea_iload_n (pc := 407) dX12_post_407 rfl 1 rfl ?_
    obtain ⟨z85, E⟩ := gd_some E
    refine ea_callV (pc := 408) (d' := d - 1) (As := [vI x7, vI (ea_i (ea_wi (ea_wi h (b0 + 49) (Int32.toNatClampNeg sx1) sx0) (b0 + 57) (Int32.toNatClampNeg x7) (-1)) (b0 + 0) 0), vI 0, vI x2]) (st := []) dX12_post_408 kX12_turns (sX12_turns (d := d - 1) (by omega) hs84 z85) (by omega) rfl (Nat.le_of_ble_eq_true rfl) ew_2011 ew_2013 ew_88 (ci := 12) rfl (by decide) (hs84.1 0 (by decide)).1 (hs84.1 0 (by decide)).2.1 ?_
    have hs86 : ShM b0 (wX12_turns b0 (x7 : Int32) ((ea_i (ea_wi (ea_wi h (b0 + 49) (Int32.toNatClampNeg sx1) sx0) (b0 + 57) (Int32.toNatClampNeg x7) (-1)) (b0 + 0) 0) : Int32) (0 : Int32) (x2 : Int32) (ea_wi (ea_wi h (b0 + 49) (Int32.toNatClampNeg sx1) sx0) (b0 + 57) (Int32.toNatClampNeg x7) (-1))) := shX12_turns hs84
    refine ea_iload (pc := 411) dX12_post_411 2 rfl ?_
    exact ea_iretO (pc := 413) dX12_post_413 rfl rfl E
noncomputable def qX12_post (b0 : Nat) (x1 : Int32) (x2 : Int32) (x3 : Int32) (x4 : Int32) (x5 : Int32) (x6 : Int32) (h : ea_H) : Option (Int32 × ea_H) := gX12_post b0 1000000000 0 0 0 x1 x2 x3 x4 x5 x6 0 0 h
def okX12_post (b0 : Nat) (x1 : Int32) (x2 : Int32) (x3 : Int32) (x4 : Int32) (x5 : Int32) (x6 : Int32) (h : ea_H) : Prop := ∃ x, qX12_post b0 x1 x2 x3 x4 x5 x6 h = some x
noncomputable def vX12_post (b0 : Nat) (x1 : Int32) (x2 : Int32) (x3 : Int32) (x4 : Int32) (x5 : Int32) (x6 : Int32) (h : ea_H) : Int32 := ((qX12_post b0 x1 x2 x3 x4 x5 x6 h).getD (0, h)).1
noncomputable def wX12_post (b0 : Nat) (x1 : Int32) (x2 : Int32) (x3 : Int32) (x4 : Int32) (x5 : Int32) (x6 : Int32) (h : ea_H) : ea_H := ((qX12_post b0 x1 x2 x3 x4 x5 x6 h).getD (0, h)).2
theorem sX12_post {d : Nat} {b0 : Nat} {x1 : Int32} {x2 : Int32} {x3 : Int32} {x4 : Int32} {x5 : Int32} {x6 : Int32} {h : ea_H} (hd : 5 ≤ d) (hs : ShM b0 h) (K : okX12_post b0 x1 x2 x3 x4 x5 x6 h) : ea_Met mX12_post d [vR (some (b0 + 0)), vI x1, vI x2, vI x3, vI x4, vI x5, vI x6] h (some (vI (vX12_post b0 x1 x2 x3 x4 x5 x6 h))) (wX12_post b0 x1 x2 x3 x4 x5 x6 h) := by
  obtain ⟨⟨x, y⟩, K⟩ := K
  unfold wX12_post vX12_post
  rw [K]
  unfold qX12_post at K
  exact ea_enter rfl (Nat.le_of_ble_eq_true rfl) ((tX12_post hd 1000000000 0 0 0 x1 x2 x3 x4 x5 x6 0 0 h x y K hs).1 rfl)
theorem zX12_post {b0 : Nat} : ∀ (f lbl : Nat) (sx0 : Int32) (sx1 : Int32) (x1 : Int32) (x2 : Int32) (x3 : Int32) (x4 : Int32) (x5 : Int32) (x6 : Int32) (x7 : Int32) (x8 : Int32) (h : ea_H) (r : Int32) (h' : ea_H), gX12_post b0 f lbl sx0 sx1 x1 x2 x3 x4 x5 x6 x7 x8 h = some (r, h') → ShM b0 h → ShM b0 h' := by
  intro f
  induction f with
  | zero => intro lbl sx0 sx1 x1 x2 x3 x4 x5 x6 x7 x8 h r h' E; cases E
  | succ f ih =>
    intro lbl sx0 sx1 x1 x2 x3 x4 x5 x6 x7 x8 h r h' E hs
    unfold gX12_post at E
    by_cases el0 : lbl = 0
    · have E := (if_pos el0).symm.trans E
      by_cases c40 : (vX12_isIn (x1 : Int32) (0 : Int32) (4 : Int32) h) = (0 : Int32)
      · have E := (if_pos c40).symm.trans E
        exact ea_shO E hs
      have E := (if_neg c40).symm.trans E
      by_cases c39 : (vX12_isTown b0 (x2 : Int32) h) = (0 : Int32)
      · have E := (if_pos c39).symm.trans E
        exact ea_shO E hs
      have E := (if_neg c39).symm.trans E
      by_cases c38 : (vX12_isTown b0 (x3 : Int32) h) = (0 : Int32)
      · have E := (if_pos c38).symm.trans E
        exact ea_shO E hs
      have E := (if_neg c38).symm.trans E
      by_cases c37 : x2 = x3
      · have E := (if_pos c37).symm.trans E
        exact ea_shO E hs
      have E := (if_neg c37).symm.trans E
      by_cases c36 : (vX12_isIn (x4 : Int32) (1 : Int32) (9 : Int32) h) = (0 : Int32)
      · have E := (if_pos c36).symm.trans E
        exact ea_shO E hs
      have E := (if_neg c36).symm.trans E
      by_cases c35 : (vX12_isIn (x5 : Int32) (0 : Int32) (99 : Int32) h) = (0 : Int32)
      · have E := (if_pos c35).symm.trans E
        exact ea_shO E hs
      have E := (if_neg c35).symm.trans E
      by_cases c34 : (vX12_isIn (x6 : Int32) (0 : Int32) (9 : Int32) h) = (0 : Int32)
      · have E := (if_pos c34).symm.trans E
        exact ea_shO E hs
      have E := (if_neg c34).symm.trans E
      by_cases c33 : (ea_i h (b0 + 0) 63) = (120 : Int32)
      · have E := (if_pos c33).symm.trans E
        exact ea_shO E hs
      have E := (if_neg c33).symm.trans E
      obtain ⟨z8, E⟩ := gd_some E
      obtain ⟨z10, E⟩ := gd_some E
      obtain ⟨z12, E⟩ := gd_some E
      obtain ⟨z14, E⟩ := gd_some E
      obtain ⟨z16, E⟩ := gd_some E
      obtain ⟨z18, E⟩ := gd_some E
      obtain ⟨z20, E⟩ := gd_some E
      obtain ⟨z22, E⟩ := gd_some E
      obtain ⟨z24, E⟩ := gd_some E
      obtain ⟨z26, E⟩ := gd_some E
      obtain ⟨z28, E⟩ := gd_some E
      obtain ⟨z30, E⟩ := gd_some E
      obtain ⟨z31, E⟩ := gd_some E
      exact ih 190 0 0 0 (x2 : Int32) 0 0 0 (x6 : Int32) ((ea_i h (b0 + 0) 63) : Int32) (0 : Int32) (ea_wi (ea_wi (wX12_isCross b0 (x2 : Int32) (x3 : Int32) (ea_wi (wX12_milesOf b0 (x2 : Int32) (x3 : Int32) (0 : Int32) (ea_wi (ea_wi (ea_wi (ea_wi (ea_wi (ea_wi (ea_wi (ea_wi h (b0 + 0) 63 ((ea_i h (b0 + 0) 63) + (1 : Int32))) (b0 + 38) (Int32.toNatClampNeg (ea_i h (b0 + 0) 63)) x1) (b0 + 39) (Int32.toNatClampNeg (ea_i h (b0 + 0) 63)) x2) (b0 + 40) (Int32.toNatClampNeg (ea_i h (b0 + 0) 63)) x3) (b0 + 41) (Int32.toNatClampNeg (ea_i h (b0 + 0) 63)) x4) (b0 + 42) (Int32.toNatClampNeg (ea_i h (b0 + 0) 63)) x5) (b0 + 43) (Int32.toNatClampNeg (ea_i h (b0 + 0) 63)) x6) (b0 + 44) (Int32.toNatClampNeg (ea_i h (b0 + 0) 63)) (ea_i (ea_wi (ea_wi (ea_wi (ea_wi (ea_wi (ea_wi (ea_wi h (b0 + 0) 63 ((ea_i h (b0 + 0) 63) + (1 : Int32))) (b0 + 38) (Int32.toNatClampNeg (ea_i h (b0 + 0) 63)) x1) (b0 + 39) (Int32.toNatClampNeg (ea_i h (b0 + 0) 63)) x2) (b0 + 40) (Int32.toNatClampNeg (ea_i h (b0 + 0) 63)) x3) (b0 + 41) (Int32.toNatClampNeg (ea_i h (b0 + 0) 63)) x4) (b0 + 42) (Int32.toNatClampNeg (ea_i h (b0 + 0) 63)) x5) (b0 + 43) (Int32.toNatClampNeg (ea_i h (b0 + 0) 63)) x6) (b0 + 0) 0))) (b0 + 45) (Int32.toNatClampNeg (ea_i h (b0 + 0) 63)) (vX12_milesOf b0 (x2 : Int32) (x3 : Int32) (0 : Int32) (ea_wi (ea_wi (ea_wi (ea_wi (ea_wi (ea_wi (ea_wi (ea_wi h (b0 + 0) 63 ((ea_i h (b0 + 0) 63) + (1 : Int32))) (b0 + 38) (Int32.toNatClampNeg (ea_i h (b0 + 0) 63)) x1) (b0 + 39) (Int32.toNatClampNeg (ea_i h (b0 + 0) 63)) x2) (b0 + 40) (Int32.toNatClampNeg (ea_i h (b0 + 0) 63)) x3) (b0 + 41) (Int32.toNatClampNeg (ea_i h (b0 + 0) 63)) x4) (b0 + 42) (Int32.toNatClampNeg (ea_i h (b0 + 0) 63)) x5) (b0 + 43) (Int32.toNatClampNeg (ea_i h (b0 + 0) 63)) x6) (b0 + 44) (Int32.toNatClampNeg (ea_i h (b0 + 0) 63)) (ea_i (ea_wi (ea_wi (ea_wi (ea_wi (ea_wi (ea_wi (ea_wi h (b0 + 0) 63 ((ea_i h (b0 + 0) 63) + (1 : Int32))) (b0 + 38) (Int32.toNatClampNeg (ea_i h (b0 + 0) 63)) x1) (b0 + 39) (Int32.toNatClampNeg (ea_i h (b0 + 0) 63)) x2) (b0 + 40) (Int32.toNatClampNeg (ea_i h (b0 + 0) 63)) x3) (b0 + 41) (Int32.toNatClampNeg (ea_i h (b0 + 0) 63)) x4) (b0 + 42) (Int32.toNatClampNeg (ea_i h (b0 + 0) 63)) x5) (b0 + 43) (Int32.toNatClampNeg (ea_i h (b0 + 0) 63)) x6) (b0 + 0) 0))))) (b0 + 52) (Int32.toNatClampNeg (ea_i h (b0 + 0) 63)) (vX12_isCross b0 (x2 : Int32) (x3 : Int32) (ea_wi (wX12_milesOf b0 (x2 : Int32) (x3 : Int32) (0 : Int32) (ea_wi (ea_wi (ea_wi (ea_wi (ea_wi (ea_wi (ea_wi (ea_wi h (b0 + 0) 63 ((ea_i h (b0 + 0) 63) + (1 : Int32))) (b0 + 38) (Int32.toNatClampNeg (ea_i h (b0 + 0) 63)) x1) (b0 + 39) (Int32.toNatClampNeg (ea_i h (b0 + 0) 63)) x2) (b0 + 40) (Int32.toNatClampNeg (ea_i h (b0 + 0) 63)) x3) (b0 + 41) (Int32.toNatClampNeg (ea_i h (b0 + 0) 63)) x4) (b0 + 42) (Int32.toNatClampNeg (ea_i h (b0 + 0) 63)) x5) (b0 + 43) (Int32.toNatClampNeg (ea_i h (b0 + 0) 63)) x6) (b0 + 44) (Int32.toNatClampNeg (ea_i h (b0 + 0) 63)) (ea_i (ea_wi (ea_wi (ea_wi (ea_wi (ea_wi (ea_wi (ea_wi h (b0 + 0) 63 ((ea_i h (b0 + 0) 63) + (1 : Int32))) (b0 + 38) (Int32.toNatClampNeg (ea_i h (b0 + 0) 63)) x1) (b0 + 39) (Int32.toNatClampNeg (ea_i h (b0 + 0) 63)) x2) (b0 + 40) (Int32.toNatClampNeg (ea_i h (b0 + 0) 63)) x3) (b0 + 41) (Int32.toNatClampNeg (ea_i h (b0 + 0) 63)) x4) (b0 + 42) (Int32.toNatClampNeg (ea_i h (b0 + 0) 63)) x5) (b0 + 43) (Int32.toNatClampNeg (ea_i h (b0 + 0) 63)) x6) (b0 + 0) 0))) (b0 + 45) (Int32.toNatClampNeg (ea_i h (b0 + 0) 63)) (vX12_milesOf b0 (x2 : Int32) (x3 : Int32) (0 : Int32) (ea_wi (ea_wi (ea_wi (ea_wi (ea_wi (ea_wi (ea_wi (ea_wi h (b0 + 0) 63 ((ea_i h (b0 + 0) 63) + (1 : Int32))) (b0 + 38) (Int32.toNatClampNeg (ea_i h (b0 + 0) 63)) x1) (b0 + 39) (Int32.toNatClampNeg (ea_i h (b0 + 0) 63)) x2) (b0 + 40) (Int32.toNatClampNeg (ea_i h (b0 + 0) 63)) x3) (b0 + 41) (Int32.toNatClampNeg (ea_i h (b0 + 0) 63)) x4) (b0 + 42) (Int32.toNatClampNeg (ea_i h (b0 + 0) 63)) x5) (b0 + 43) (Int32.toNatClampNeg (ea_i h (b0 + 0) 63)) x6) (b0 + 44) (Int32.toNatClampNeg (ea_i h (b0 + 0) 63)) (ea_i (ea_wi (ea_wi (ea_wi (ea_wi (ea_wi (ea_wi (ea_wi h (b0 + 0) 63 ((ea_i h (b0 + 0) 63) + (1 : Int32))) (b0 + 38) (Int32.toNatClampNeg (ea_i h (b0 + 0) 63)) x1) (b0 + 39) (Int32.toNatClampNeg (ea_i h (b0 + 0) 63)) x2) (b0 + 40) (Int32.toNatClampNeg (ea_i h (b0 + 0) 63)) x3) (b0 + 41) (Int32.toNatClampNeg (ea_i h (b0 + 0) 63)) x4) (b0 + 42) (Int32.toNatClampNeg (ea_i h (b0 + 0) 63)) x5) (b0 + 43) (Int32.toNatClampNeg (ea_i h (b0 + 0) 63)) x6) (b0 + 0) 0)))))) (b0 + 46) (Int32.toNatClampNeg (ea_i h (b0 + 0) 63)) 0) _ _ E (ShM_wi (ShM_wi (shX12_isCross (ShM_wi (shX12_milesOf (ShM_wi (ShM_wi (ShM_wi (ShM_wi (ShM_wi (ShM_wi (ShM_wi (ShM_wi hs)))))))))))))
    have E := (if_neg el0).symm.trans E
    by_cases el1 : lbl = 190
    · have E := (if_pos el1).symm.trans E
      by_cases c65 : x7 < x8
      · have E := (if_pos c65).symm.trans E
        obtain ⟨z41, E⟩ := gd_some E
        obtain ⟨z43, E⟩ := gd_some E
        obtain ⟨z45, E⟩ := gd_some E
        by_cases c49 : (ea_i (ea_wi (wX12_actOn b0 (((ea_i h (b0 + 0) 0) / (1440 : Int32)) : Int32) h) (b0 + 47) (Int32.toNatClampNeg x7) (vX12_actOn b0 (((ea_i h (b0 + 0) 0) / (1440 : Int32)) : Int32) h)) (b0 + 47) (Int32.toNatClampNeg x7)) = ((-1) : Int32)
        · have E := (if_pos c49).symm.trans E
          exact ih 320 (0 : Int32) (x7 : Int32) 0 (x2 : Int32) 0 0 0 0 (x7 : Int32) 0 (ea_wi (wX12_actOn b0 (((ea_i h (b0 + 0) 0) / (1440 : Int32)) : Int32) h) (b0 + 47) (Int32.toNatClampNeg x7) (vX12_actOn b0 (((ea_i h (b0 + 0) 0) / (1440 : Int32)) : Int32) h)) _ _ E (ShM_wi (shX12_actOn hs))
        have E := (if_neg c49).symm.trans E
        obtain ⟨z46, E⟩ := gd_some E
        obtain ⟨z47, E⟩ := gd_some E
        by_cases c48 : (vX12_isFree b0 (x7 : Int32) ((ea_i (ea_wi (wX12_actOn b0 (((ea_i h (b0 + 0) 0) / (1440 : Int32)) : Int32) h) (b0 + 47) (Int32.toNatClampNeg x7) (vX12_actOn b0 (((ea_i h (b0 + 0) 0) / (1440 : Int32)) : Int32) h)) (b0 + 47) (Int32.toNatClampNeg x7)) : Int32) (ea_wi (wX12_actOn b0 (((ea_i h (b0 + 0) 0) / (1440 : Int32)) : Int32) h) (b0 + 47) (Int32.toNatClampNeg x7) (vX12_actOn b0 (((ea_i h (b0 + 0) 0) / (1440 : Int32)) : Int32) h))) = (0 : Int32)
        · have E := (if_pos c48).symm.trans E
          exact ih 320 (0 : Int32) (x7 : Int32) 0 (x2 : Int32) 0 0 0 0 (x7 : Int32) 0 (ea_wi (wX12_actOn b0 (((ea_i h (b0 + 0) 0) / (1440 : Int32)) : Int32) h) (b0 + 47) (Int32.toNatClampNeg x7) (vX12_actOn b0 (((ea_i h (b0 + 0) 0) / (1440 : Int32)) : Int32) h)) _ _ E (ShM_wi (shX12_actOn hs))
        have E := (if_neg c48).symm.trans E
        exact ih 320 (1 : Int32) (x7 : Int32) 0 (x2 : Int32) 0 0 0 0 (x7 : Int32) 0 (ea_wi (wX12_actOn b0 (((ea_i h (b0 + 0) 0) / (1440 : Int32)) : Int32) h) (b0 + 47) (Int32.toNatClampNeg x7) (vX12_actOn b0 (((ea_i h (b0 + 0) 0) / (1440 : Int32)) : Int32) h)) _ _ E (ShM_wi (shX12_actOn hs))
      have E := (if_neg c65).symm.trans E
      obtain ⟨z50, E⟩ := gd_some E
      obtain ⟨z51, E⟩ := gd_some E
      by_cases c64 : (ea_i h (b0 + 38) (Int32.toNatClampNeg x8)) = (2 : Int32)
      · have E := (if_pos c64).symm.trans E
        obtain ⟨z54, E⟩ := gd_some E
        by_cases c63 : (ea_i h (b0 + 43) (Int32.toNatClampNeg x8)) = x6
        · have E := (if_pos c63).symm.trans E
          obtain ⟨z57, E⟩ := gd_some E
          by_cases c62 : ((ea_i h (b0 + 44) (Int32.toNatClampNeg x8)) / (1440 : Int32)) = ((ea_i h (b0 + 0) 0) / (1440 : Int32))
          · have E := (if_pos c62).symm.trans E
            obtain ⟨z60, E⟩ := gd_some E
            exact ih 190 0 0 0 (x2 : Int32) 0 0 0 (x6 : Int32) (x7 : Int32) ((x8 + (1 : Int32)) : Int32) (ea_wi h (b0 + 46) (Int32.toNatClampNeg x7) ((ea_i h (b0 + 46) (Int32.toNatClampNeg x7)) + (1 : Int32))) _ _ E (ShM_wi hs)
          have E := (if_neg c62).symm.trans E
          obtain ⟨z58, E⟩ := gd_some E
          exact ih 190 0 0 0 (x2 : Int32) 0 0 0 (x6 : Int32) (x7 : Int32) ((x8 + (1 : Int32)) : Int32) (ea_wi h (b0 + 46) (Int32.toNatClampNeg x7) ((ea_i h (b0 + 46) (Int32.toNatClampNeg x7)) + (0 : Int32))) _ _ E (ShM_wi hs)
        have E := (if_neg c63).symm.trans E
        obtain ⟨z55, E⟩ := gd_some E
        exact ih 190 0 0 0 (x2 : Int32) 0 0 0 (x6 : Int32) (x7 : Int32) ((x8 + (1 : Int32)) : Int32) (ea_wi h (b0 + 46) (Int32.toNatClampNeg x7) ((ea_i h (b0 + 46) (Int32.toNatClampNeg x7)) + (0 : Int32))) _ _ E (ShM_wi hs)
      have E := (if_neg c64).symm.trans E
      obtain ⟨z52, E⟩ := gd_some E
      exact ih 190 0 0 0 (x2 : Int32) 0 0 0 (x6 : Int32) (x7 : Int32) ((x8 + (1 : Int32)) : Int32) (ea_wi h (b0 + 46) (Int32.toNatClampNeg x7) ((ea_i h (b0 + 46) (Int32.toNatClampNeg x7)) + (0 : Int32))) _ _ E (ShM_wi hs)
    have E := (if_neg el1).symm.trans E
    by_cases el2 : lbl = 320
    · have E := (if_pos el2).symm.trans E
      obtain ⟨z66, E⟩ := gd_some E
      obtain ⟨z68, E⟩ := gd_some E
      obtain ⟨z69, E⟩ := gd_some E
      by_cases c73 : (ea_i (ea_wi h (b0 + 53) (Int32.toNatClampNeg sx1) sx0) (b0 + 47) (Int32.toNatClampNeg x7)) = ((-1) : Int32)
      · have E := (if_pos c73).symm.trans E
        exact ih 355 (0 : Int32) (x7 : Int32) 0 (x2 : Int32) 0 0 0 0 (x7 : Int32) 0 (ea_wi h (b0 + 53) (Int32.toNatClampNeg sx1) sx0) _ _ E (ShM_wi hs)
      have E := (if_neg c73).symm.trans E
      obtain ⟨z70, E⟩ := gd_some E
      obtain ⟨z71, E⟩ := gd_some E
      exact ih 355 ((vX12_chargeBy b0 (x7 : Int32) ((ea_i (ea_wi h (b0 + 53) (Int32.toNatClampNeg sx1) sx0) (b0 + 47) (Int32.toNatClampNeg x7)) : Int32) (ea_wi h (b0 + 53) (Int32.toNatClampNeg sx1) sx0)) : Int32) (x7 : Int32) 0 (x2 : Int32) 0 0 0 0 (x7 : Int32) 0 (wX12_chargeBy b0 (x7 : Int32) ((ea_i (ea_wi h (b0 + 53) (Int32.toNatClampNeg sx1) sx0) (b0 + 47) (Int32.toNatClampNeg x7)) : Int32) (ea_wi h (b0 + 53) (Int32.toNatClampNeg sx1) sx0)) _ _ E (shX12_chargeBy (ShM_wi hs))
    have E := (if_neg el2).symm.trans E
    by_cases el3 : lbl = 355
    · have E := (if_pos el3).symm.trans E
      obtain ⟨z74, E⟩ := gd_some E
      obtain ⟨z76, E⟩ := gd_some E
      by_cases c80 : (ea_i (ea_wi h (b0 + 48) (Int32.toNatClampNeg sx1) sx0) (b0 + 47) (Int32.toNatClampNeg x7)) = ((-1) : Int32)
      · have E := (if_pos c80).symm.trans E
        exact ih 390 ((-1) : Int32) (x7 : Int32) 0 (x2 : Int32) 0 0 0 0 (x7 : Int32) 0 (ea_wi h (b0 + 48) (Int32.toNatClampNeg sx1) sx0) _ _ E (ShM_wi hs)
      have E := (if_neg c80).symm.trans E
      obtain ⟨z77, E⟩ := gd_some E
      obtain ⟨z78, E⟩ := gd_some E
      exact ih 390 ((vX12_lineOf b0 (x7 : Int32) ((ea_i (ea_wi h (b0 + 48) (Int32.toNatClampNeg sx1) sx0) (b0 + 47) (Int32.toNatClampNeg x7)) : Int32) (ea_wi h (b0 + 48) (Int32.toNatClampNeg sx1) sx0)) : Int32) (x7 : Int32) 0 (x2 : Int32) 0 0 0 0 (x7 : Int32) 0 (wX12_lineOf b0 (x7 : Int32) ((ea_i (ea_wi h (b0 + 48) (Int32.toNatClampNeg sx1) sx0) (b0 + 47) (Int32.toNatClampNeg x7)) : Int32) (ea_wi h (b0 + 48) (Int32.toNatClampNeg sx1) sx0)) _ _ E (shX12_lineOf (ShM_wi hs))
    have E := (if_neg el3).symm.trans E
    by_cases el4 : lbl = 390
    · have E := (if_pos el4).symm.trans E
      obtain ⟨z81, E⟩ := gd_some E
      obtain ⟨z83, E⟩ := gd_some E
      obtain ⟨z85, E⟩ := gd_some E
      exact ea_shO E (shX12_turns (ShM_wi (ShM_wi hs)))
    have E := (if_neg el4).symm.trans E
    cases E
theorem shX12_post {b0 : Nat} {x1 : Int32} {x2 : Int32} {x3 : Int32} {x4 : Int32} {x5 : Int32} {x6 : Int32} {h : ea_H} (hs : ShM b0 h) : ShM b0 (wX12_post b0 x1 x2 x3 x4 x5 x6 h) := by
  unfold wX12_post
  cases K : qX12_post b0 x1 x2 x3 x4 x5 x6 h with
  | none => exact hs
  | some x => obtain ⟨x, y⟩ := x; unfold qX12_post at K; exact zX12_post _ _ _ _ _ _ _ _ _ _ _ _ _ _ _ K hs
noncomputable def gX12_where (b0 : Nat) : Nat → Nat → Int32 → Int32 → Int32 → Int32 → ea_H → Option (Int32 × ea_H)
  | 0, _, _, _, _, _, _ => none
  | f + 1, lbl, x1, x2, x3, x4, h =>
    if lbl = 0 then (if (vX12_isLetterOf b0 (x1 : Int32) h) = (0 : Int32) then (some (((-1) : Int32), h)) else (gd (vp_in x1 120) (if (vX12_isIn (x2 : Int32) ((ea_i h (b0 + 44) (Int32.toNatClampNeg x1)) : Int32) ((ea_i h (b0 + 0) 0) : Int32) h) = (0 : Int32) then (some (((-1) : Int32), h)) else (if (vX12_isIn (x3 : Int32) (0 : Int32) (1 : Int32) h) = (0 : Int32) then (some (((-1) : Int32), h)) else (gd (vp_in x1 120) (gX12_where b0 f 46 (x1 : Int32) (x2 : Int32) (x3 : Int32) (((ea_i h (b0 + 50) (Int32.toNatClampNeg x1)) - (1 : Int32)) : Int32) h)))))) else
    if lbl = 46 then (gd (vp_in (((1000 : Int32) * x1) + x4) 120000) (if (ea_i h (b0 + 62) (Int32.toNatClampNeg (((1000 : Int32) * x1) + x4))) ≤ x2 then (if x3 = (0 : Int32) then (gd (vp_in (((1000 : Int32) * x1) + x4) 120000) (some ((ea_i h (b0 + 63) (Int32.toNatClampNeg (((1000 : Int32) * x1) + x4))), h))) else (gd (vp_in (((1000 : Int32) * x1) + x4) 120000) (some ((ea_i h (b0 + 64) (Int32.toNatClampNeg (((1000 : Int32) * x1) + x4))), h)))) else (gX12_where b0 f 46 (x1 : Int32) (x2 : Int32) (x3 : Int32) ((x4 + ((-1) : Int32)) : Int32) h))) else none
theorem tX12_where {d : Nat} {b0 : Nat} {h0 : ea_H} (hd : 3 ≤ d) : ∀ (f lbl : Nat) (x1 : Int32) (x2 : Int32) (x3 : Int32) (x4 : Int32) (h : ea_H) (r : Int32) (h' : ea_H), gX12_where b0 f lbl x1 x2 x3 x4 h = some (r, h') → ShM b0 h → (lbl = 0 → ea_W mX12_where d h0 (some (vI r)) h' 0 [(0, vR (some (b0 + 0))), (1, vI x1), (2, vI x2), (3, vI x3)] [] h) ∧ (lbl = 46 → ea_W mX12_where d h0 (some (vI r)) h' 46 [(0, vR (some (b0 + 0))), (1, vI x1), (2, vI x2), (3, vI x3), (4, vI x4)] [] h) := by
  intro f
  induction f with
  | zero => intro lbl x1 x2 x3 x4 h r h' E; cases E
  | succ f ih =>
    intro lbl x1 x2 x3 x4 h r h' E hs
    unfold gX12_where at E
    refine ⟨?_, ?_⟩
    · intro el
      subst el
      have E := (if_pos rfl).symm.trans E
      refine ea_aload_n (pc := 0) dX12_where_0 rfl 0 rfl ?_
      refine ea_iload_n (pc := 1) dX12_where_1 rfl 1 rfl ?_
      refine ea_callV (pc := 2) (d' := d - 1) (As := [vI x1]) (st := []) dX12_where_2 kX12_isLetterOf (sX12_isLetterOf (d := d - 1) (by omega) hs) (by omega) rfl (Nat.le_of_ble_eq_true rfl) ew_2019 ew_2021 ew_89 (ci := 12) rfl (by decide) (hs.1 0 (by decide)).1 (hs.1 0 (by decide)).2.1 ?_
      refine ea_if_eq (pc := 5) (tgt := 34) dX12_where_5 rfl (fun c8 => ?_) (fun c8 => ?_)
      · have E := (if_pos c8).symm.trans E
        refine ea_iconst (pc := 34) dX12_where_34 (v := (-1)) rfl ?_
        exact ea_iretO (pc := 35) dX12_where_35 rfl rfl E
      · have E := (if_neg c8).symm.trans E
        refine ea_iload_n (pc := 8) dX12_where_8 rfl 2 rfl ?_
        refine ea_aload_n (pc := 9) dX12_where_9 rfl 0 rfl ?_
        refine ea_getR (pc := 10) dX12_where_10 ec_12 (k := 70) (Nat.le_of_ble_eq_true rfl) rfl (Or.inl ew_1415) (hs.1 0 (by decide)).1 (hs.1 0 (by decide)).2.1 (hs.2 0 70 rfl) ?_
        refine ea_iload_n (pc := 13) dX12_where_13 rfl 1 rfl ?_
        obtain ⟨z2, E⟩ := gd_some E
        refine ea_iald (pc := 14) dX12_where_14 (hs.1 44 (by decide)).1 (hs.1 44 (by decide)).2.1 (ea_vpl (hs.1 44 (by decide)).2.2 z2) ?_
        refine ea_aload_n (pc := 15) dX12_where_15 rfl 0 rfl ?_
        refine ea_getI (pc := 16) dX12_where_16 ec_12 (k := 0) (Nat.le_of_ble_eq_true rfl) rfl (Or.inl ew_1345) (hs.1 0 (by decide)).1 (hs.1 0 (by decide)).2.1 ?_
        refine ea_callS (pc := 19) (d' := d - 1) (As := [vI x2, vI (ea_i h (b0 + 44) (Int32.toNatClampNeg x1)), vI (ea_i h (b0 + 0) 0)]) (st := []) dX12_where_19 kX12_isIn (sX12_isIn (d := d - 1) (by omega)) (by omega) rfl (Nat.le_of_ble_eq_true rfl) ew_1712 ew_1713 ?_
        refine ea_if_eq (pc := 22) (tgt := 34) dX12_where_22 rfl (fun c7 => ?_) (fun c7 => ?_)
        · have E := (if_pos c7).symm.trans E
          refine ea_iconst (pc := 34) dX12_where_34 (v := (-1)) rfl ?_
          exact ea_iretO (pc := 35) dX12_where_35 rfl rfl E
        · have E := (if_neg c7).symm.trans E
          refine ea_iload_n (pc := 25) dX12_where_25 rfl 3 rfl ?_
          refine ea_iconst (pc := 26) dX12_where_26 (v := 0) rfl ?_
          refine ea_iconst (pc := 27) dX12_where_27 (v := 1) rfl ?_
          refine ea_callS (pc := 28) (d' := d - 1) (As := [vI x3, vI 0, vI 1]) (st := []) dX12_where_28 kX12_isIn (sX12_isIn (d := d - 1) (by omega)) (by omega) rfl (Nat.le_of_ble_eq_true rfl) ew_1712 ew_1713 ?_
          refine ea_if_ne (pc := 31) (tgt := 36) dX12_where_31 rfl (fun c6 => ?_) (fun c6 => ?_)
          · have E := (if_neg c6).symm.trans E
            refine ea_aload_n (pc := 36) dX12_where_36 rfl 0 rfl ?_
            refine ea_getR (pc := 37) dX12_where_37 ec_12 (k := 76) (Nat.le_of_ble_eq_true rfl) rfl (Or.inl ew_1421) (hs.1 0 (by decide)).1 (hs.1 0 (by decide)).2.1 (hs.2 0 76 rfl) ?_
            refine ea_iload_n (pc := 40) dX12_where_40 rfl 1 rfl ?_
            obtain ⟨z5, E⟩ := gd_some E
            refine ea_iald (pc := 41) dX12_where_41 (hs.1 50 (by decide)).1 (hs.1 50 (by decide)).2.1 (ea_vpl (hs.1 50 (by decide)).2.2 z5) ?_
            refine ea_iconst (pc := 42) dX12_where_42 (v := 1) rfl ?_
            refine ea_isub (pc := 43) dX12_where_43 ?_
            refine ea_istore (pc := 44) (lv' := [(0, vR (some (b0 + 0))), (1, vI x1), (2, vI x2), (3, vI x3), (4, vI ((ea_i h (b0 + 50) (Int32.toNatClampNeg x1)) - (1 : Int32)))]) dX12_where_44 (Nat.le_of_ble_eq_true rfl) [1, 2, 3, 4, 0] rfl ?_
            exact ((ih 46 (x1 : Int32) (x2 : Int32) (x3 : Int32) (((ea_i h (b0 + 50) (Int32.toNatClampNeg x1)) - (1 : Int32)) : Int32) h _ _ E hs).2 rfl)
          · have E := (if_pos c6).symm.trans E
            refine ea_iconst (pc := 34) dX12_where_34 (v := (-1)) rfl ?_
            exact ea_iretO (pc := 35) dX12_where_35 rfl rfl E
    intro el
    subst el
    have E := (if_neg (by decide)).symm.trans E
    have E := (if_pos rfl).symm.trans E
    refine ea_aload_n (pc := 46) dX12_where_46 rfl 0 rfl ?_
    refine ea_getR (pc := 47) dX12_where_47 ec_12 (k := 88) (Nat.le_of_ble_eq_true rfl) rfl (Or.inl ew_1433) (hs.1 0 (by decide)).1 (hs.1 0 (by decide)).2.1 (hs.2 0 88 rfl) ?_
    refine ea_sipush (pc := 50) dX12_where_50 (v := 1000) rfl ?_
    refine ea_iload_n (pc := 53) dX12_where_53 rfl 1 rfl ?_
    refine ea_imul (pc := 54) dX12_where_54 ?_
    refine ea_iload (pc := 55) dX12_where_55 4 rfl ?_
    refine ea_iadd (pc := 57) dX12_where_57 ?_
    obtain ⟨z9, E⟩ := gd_some E
    refine ea_iald (pc := 58) dX12_where_58 (hs.1 62 (by decide)).1 (hs.1 62 (by decide)).2.1 (ea_vpl (hs.1 62 (by decide)).2.2 z9) ?_
    refine ea_iload_n (pc := 59) dX12_where_59 rfl 2 rfl ?_
    refine ea_icmp_le (pc := 60) (tgt := 69) dX12_where_60 rfl (fun c13 => ?_) (fun c13 => ?_)
    · have E := (if_pos c13).symm.trans E
      refine ea_iload_n (pc := 69) dX12_where_69 rfl 3 rfl ?_
      refine ea_if_ne (pc := 70) (tgt := 89) dX12_where_70 rfl (fun c12 => ?_) (fun c12 => ?_)
      · have E := (if_neg c12).symm.trans E
        refine ea_aload_n (pc := 89) dX12_where_89 rfl 0 rfl ?_
        refine ea_getR (pc := 90) dX12_where_90 ec_12 (k := 90) (Nat.le_of_ble_eq_true rfl) rfl (Or.inl ew_1435) (hs.1 0 (by decide)).1 (hs.1 0 (by decide)).2.1 (hs.2 0 90 rfl) ?_
        refine ea_sipush (pc := 93) dX12_where_93 (v := 1000) rfl ?_
        refine ea_iload_n (pc := 96) dX12_where_96 rfl 1 rfl ?_
        refine ea_imul (pc := 97) dX12_where_97 ?_
        refine ea_iload (pc := 98) dX12_where_98 4 rfl ?_
        refine ea_iadd (pc := 100) dX12_where_100 ?_
        obtain ⟨z10, E⟩ := gd_some E
        refine ea_iald (pc := 101) dX12_where_101 (hs.1 64 (by decide)).1 (hs.1 64 (by decide)).2.1 (ea_vpl (hs.1 64 (by decide)).2.2 z10) ?_
        exact ea_iretO (pc := 102) dX12_where_102 rfl rfl E
      · have E := (if_pos c12).symm.trans E
        refine ea_aload_n (pc := 73) dX12_where_73 rfl 0 rfl ?_
        refine ea_getR (pc := 74) dX12_where_74 ec_12 (k := 89) (Nat.le_of_ble_eq_true rfl) rfl (Or.inl ew_1434) (hs.1 0 (by decide)).1 (hs.1 0 (by decide)).2.1 (hs.2 0 89 rfl) ?_
        refine ea_sipush (pc := 77) dX12_where_77 (v := 1000) rfl ?_
        refine ea_iload_n (pc := 80) dX12_where_80 rfl 1 rfl ?_
        refine ea_imul (pc := 81) dX12_where_81 ?_
        refine ea_iload (pc := 82) dX12_where_82 4 rfl ?_
        refine ea_iadd (pc := 84) dX12_where_84 ?_
        obtain ⟨z11, E⟩ := gd_some E
        refine ea_iald (pc := 85) dX12_where_85 (hs.1 63 (by decide)).1 (hs.1 63 (by decide)).2.1 (ea_vpl (hs.1 63 (by decide)).2.2 z11) ?_
        refine ea_goto (pc := 86) (tgt := 102) dX12_where_86 rfl ?_
        exact ea_iretO (pc := 102) dX12_where_102 rfl rfl E
    · have E := (if_neg c13).symm.trans E
      refine ea_iinc (pc := 63) (v := (-1)) (lv' := [(0, vR (some (b0 + 0))), (1, vI x1), (2, vI x2), (3, vI x3), (4, vI (x4 + ((-1) : Int32)))]) dX12_where_63 4 rfl rfl (Nat.le_of_ble_eq_true rfl) [1, 2, 3, 4, 0] rfl ?_
      refine ea_goto (pc := 66) (tgt := 46) dX12_where_66 rfl ?_
      exact ((ih 46 (x1 : Int32) (x2 : Int32) (x3 : Int32) ((x4 + ((-1) : Int32)) : Int32) h _ _ E hs).2 rfl)
noncomputable def qX12_where (b0 : Nat) (x1 : Int32) (x2 : Int32) (x3 : Int32) (h : ea_H) : Option (Int32 × ea_H) := gX12_where b0 1000000000 0 x1 x2 x3 0 h
def okX12_where (b0 : Nat) (x1 : Int32) (x2 : Int32) (x3 : Int32) (h : ea_H) : Prop := ∃ x, qX12_where b0 x1 x2 x3 h = some x
noncomputable def vX12_where (b0 : Nat) (x1 : Int32) (x2 : Int32) (x3 : Int32) (h : ea_H) : Int32 := ((qX12_where b0 x1 x2 x3 h).getD (0, h)).1
noncomputable def wX12_where (b0 : Nat) (x1 : Int32) (x2 : Int32) (x3 : Int32) (h : ea_H) : ea_H := ((qX12_where b0 x1 x2 x3 h).getD (0, h)).2
theorem sX12_where {d : Nat} {b0 : Nat} {x1 : Int32} {x2 : Int32} {x3 : Int32} {h : ea_H} (hd : 3 ≤ d) (hs : ShM b0 h) (K : okX12_where b0 x1 x2 x3 h) : ea_Met mX12_where d [vR (some (b0 + 0)), vI x1, vI x2, vI x3] h (some (vI (vX12_where b0 x1 x2 x3 h))) (wX12_where b0 x1 x2 x3 h) := by
  obtain ⟨⟨x, y⟩, K⟩ := K
  unfold wX12_where vX12_where
  rw [K]
  unfold qX12_where at K
  exact ea_enter rfl (Nat.le_of_ble_eq_true rfl) ((tX12_where hd 1000000000 0 x1 x2 x3 0 h x y K hs).1 rfl)
theorem zX12_where {b0 : Nat} : ∀ (f lbl : Nat) (x1 : Int32) (x2 : Int32) (x3 : Int32) (x4 : Int32) (h : ea_H) (r : Int32) (h' : ea_H), gX12_where b0 f lbl x1 x2 x3 x4 h = some (r, h') → ShM b0 h → ShM b0 h' := by
  intro f
  induction f with
  | zero => intro lbl x1 x2 x3 x4 h r h' E; cases E
  | succ f ih =>
    intro lbl x1 x2 x3 x4 h r h' E hs
    unfold gX12_where at E
    by_cases el0 : lbl = 0
    · have E := (if_pos el0).symm.trans E
      by_cases c8 : (vX12_isLetterOf b0 (x1 : Int32) h) = (0 : Int32)
      · have E := (if_pos c8).symm.trans E
        exact ea_shO E hs
      have E := (if_neg c8).symm.trans E
      obtain ⟨z2, E⟩ := gd_some E
      by_cases c7 : (vX12_isIn (x2 : Int32) ((ea_i h (b0 + 44) (Int32.toNatClampNeg x1)) : Int32) ((ea_i h (b0 + 0) 0) : Int32) h) = (0 : Int32)
      · have E := (if_pos c7).symm.trans E
        exact ea_shO E hs
      have E := (if_neg c7).symm.trans E
      by_cases c6 : (vX12_isIn (x3 : Int32) (0 : Int32) (1 : Int32) h) = (0 : Int32)
      · have E := (if_pos c6).symm.trans E
        exact ea_shO E hs
      have E := (if_neg c6).symm.trans E
      obtain ⟨z5, E⟩ := gd_some E
      exact ih 46 (x1 : Int32) (x2 : Int32) (x3 : Int32) (((ea_i h (b0 + 50) (Int32.toNatClampNeg x1)) - (1 : Int32)) : Int32) h _ _ E hs
    have E := (if_neg el0).symm.trans E
    by_cases el1 : lbl = 46
    · have E := (if_pos el1).symm.trans E
      obtain ⟨z9, E⟩ := gd_some E
      by_cases c13 : (ea_i h (b0 + 62) (Int32.toNatClampNeg (((1000 : Int32) * x1) + x4))) ≤ x2
      · have E := (if_pos c13).symm.trans E
        by_cases c12 : x3 = (0 : Int32)
        · have E := (if_pos c12).symm.trans E
          obtain ⟨z11, E⟩ := gd_some E
          exact ea_shO E hs
        have E := (if_neg c12).symm.trans E
        obtain ⟨z10, E⟩ := gd_some E
        exact ea_shO E hs
      have E := (if_neg c13).symm.trans E
      exact ih 46 (x1 : Int32) (x2 : Int32) (x3 : Int32) ((x4 + ((-1) : Int32)) : Int32) h _ _ E hs
    have E := (if_neg el1).symm.trans E
    cases E
theorem shX12_where {b0 : Nat} {x1 : Int32} {x2 : Int32} {x3 : Int32} {h : ea_H} (hs : ShM b0 h) : ShM b0 (wX12_where b0 x1 x2 x3 h) := by
  unfold wX12_where
  cases K : qX12_where b0 x1 x2 x3 h with
  | none => exact hs
  | some x => obtain ⟨x, y⟩ := x; unfold qX12_where at K; exact zX12_where _ _ _ _ _ _ _ _ _ K hs
noncomputable def gX12_coming (b0 : Nat) : Nat → Nat → Int32 → Int32 → Int32 → Int32 → Int32 → Int32 → ea_H → Option (Unit × ea_H)
  | 0, _, _, _, _, _, _, _, _ => none
  | f + 1, lbl, sx0, x1, x2, x3, x4, x5, h =>
    if lbl = 0 then (gd (vp_in x1 1000) (gd (vp_in x1 1000) (gd (vp_in ((ea_i h (b0 + 12) (Int32.toNatClampNeg x1)) / (7 : Int32)) 10) (if (ea_i h (b0 + 13) (Int32.toNatClampNeg x1)) = ((ea_i h (b0 + 2) (Int32.toNatClampNeg ((ea_i h (b0 + 12) (Int32.toNatClampNeg x1)) / (7 : Int32)))) - (1 : Int32)) then (gX12_coming b0 f 34 (1 : Int32) (x1 : Int32) ((ea_i h (b0 + 12) (Int32.toNatClampNeg x1)) : Int32) ((ea_i h (b0 + 13) (Int32.toNatClampNeg x1)) : Int32) 0 0 h) else (gX12_coming b0 f 34 (0 : Int32) (x1 : Int32) ((ea_i h (b0 + 12) (Int32.toNatClampNeg x1)) : Int32) ((ea_i h (b0 + 13) (Int32.toNatClampNeg x1)) : Int32) 0 0 h))))) else
    if lbl = 34 then (gd (vp_in (((8 : Int32) * x2) + x3) 560) (if (ea_i h (b0 + 8) (Int32.toNatClampNeg (((8 : Int32) * x2) + x3))) = (0 : Int32) then (gX12_coming b0 f 54 0 (x1 : Int32) (x2 : Int32) (x3 : Int32) (sx0 : Int32) (0 : Int32) h) else (some ((), h)))) else
    if lbl = 54 then (if (ea_i h (b0 + 0) 63) ≤ x5 then (some ((), h)) else (gd ((okX12_isAboard b0 (x5 : Int32) (x2 : Int32) h)) (if (vX12_isAboard b0 (x5 : Int32) (x2 : Int32) h) = (0 : Int32) then (gX12_coming b0 f 54 0 (x1 : Int32) (x2 : Int32) (x3 : Int32) (x4 : Int32) ((x5 + (1 : Int32)) : Int32) h) else (gd (vp_in x5 120) (if (ea_i h (b0 + 61) (Int32.toNatClampNeg x5)) = (0 : Int32) then (gX12_coming b0 f 118 0 (x1 : Int32) (x2 : Int32) (x3 : Int32) (x4 : Int32) (x5 : Int32) h) else (gd (vp_in x5 120) (if x3 < (ea_i h (b0 + 57) (Int32.toNatClampNeg x5)) then (gX12_coming b0 f 118 0 (x1 : Int32) (x2 : Int32) (x3 : Int32) (x4 : Int32) (x5 : Int32) h) else (gd (vp_in x1 1000) (gd ((okX12_townOf b0 (x2 : Int32) (x3 : Int32) h)) (gd ((okX12_putsDown b0 (x5 : Int32) ((ea_i h (b0 + 10) (Int32.toNatClampNeg x1)) : Int32) ((vX12_townOf b0 (x2 : Int32) (x3 : Int32) h) : Int32) h)) (gX12_coming b0 f 54 0 (x1 : Int32) (x2 : Int32) (x3 : Int32) (x4 : Int32) ((x5 + (1 : Int32)) : Int32) (wX12_putsDown b0 (x5 : Int32) ((ea_i h (b0 + 10) (Int32.toNatClampNeg x1)) : Int32) ((vX12_townOf b0 (x2 : Int32) (x3 : Int32) h) : Int32) h)))))))))))) else
    if lbl = 118 then (if x4 = (0 : Int32) then (gX12_coming b0 f 54 0 (x1 : Int32) (x2 : Int32) (x3 : Int32) (x4 : Int32) ((x5 + (1 : Int32)) : Int32) h) else (gd (vp_in x5 120) (if (ea_i h (b0 + 61) (Int32.toNatClampNeg x5)) = (0 : Int32) then (gd (vp_in x5 120) (gd (vp_in x5 120) (gd (vp_in x2 70) (gd (vp_in x2 70) (gX12_coming b0 f 154 0 (x1 : Int32) (x2 : Int32) (x3 : Int32) (x4 : Int32) (x5 : Int32) (ea_wi (ea_wi h (b0 + 58) (Int32.toNatClampNeg x5) ((ea_i h (b0 + 58) (Int32.toNatClampNeg x5)) + (1 : Int32))) (b0 + 60) (Int32.toNatClampNeg x2) ((ea_i (ea_wi h (b0 + 58) (Int32.toNatClampNeg x5) ((ea_i h (b0 + 58) (Int32.toNatClampNeg x5)) + (1 : Int32))) (b0 + 60) (Int32.toNatClampNeg x2)) + (1 : Int32)))))))) else (gX12_coming b0 f 154 0 (x1 : Int32) (x2 : Int32) (x3 : Int32) (x4 : Int32) (x5 : Int32) h)))) else
    if lbl = 154 then (gd (vp_in x1 1000) (gd ((okX12_townOf b0 (x2 : Int32) (x3 : Int32) h)) (gd ((okX12_putsDown b0 (x5 : Int32) ((ea_i h (b0 + 10) (Int32.toNatClampNeg x1)) : Int32) ((vX12_townOf b0 (x2 : Int32) (x3 : Int32) h) : Int32) h)) (gX12_coming b0 f 54 0 (x1 : Int32) (x2 : Int32) (x3 : Int32) (x4 : Int32) ((x5 + (1 : Int32)) : Int32) (wX12_putsDown b0 (x5 : Int32) ((ea_i h (b0 + 10) (Int32.toNatClampNeg x1)) : Int32) ((vX12_townOf b0 (x2 : Int32) (x3 : Int32) h) : Int32) h))))) else none
theorem tX12_coming {d : Nat} {b0 : Nat} {h0 : ea_H} (hd : 3 ≤ d) : ∀ (f lbl : Nat) (sx0 : Int32) (x1 : Int32) (x2 : Int32) (x3 : Int32) (x4 : Int32) (x5 : Int32) (h : ea_H) (r : Unit) (h' : ea_H), gX12_coming b0 f lbl sx0 x1 x2 x3 x4 x5 h = some (r, h') → ShM b0 h → (lbl = 0 → ea_W mX12_coming d h0 none h' 0 [(0, vR (some (b0 + 0))), (1, vI x1)] [] h) ∧ (lbl = 34 → ea_W mX12_coming d h0 none h' 34 [(0, vR (some (b0 + 0))), (1, vI x1), (2, vI x2), (3, vI x3)] [vI sx0] h) ∧ (lbl = 54 → ea_W mX12_coming d h0 none h' 54 [(0, vR (some (b0 + 0))), (1, vI x1), (2, vI x2), (3, vI x3), (4, vI x4), (5, vI x5)] [] h) ∧ (lbl = 118 → ea_W mX12_coming d h0 none h' 118 [(0, vR (some (b0 + 0))), (1, vI x1), (2, vI x2), (3, vI x3), (4, vI x4), (5, vI x5)] [] h) ∧ (lbl = 154 → ea_W mX12_coming d h0 none h' 154 [(0, vR (some (b0 + 0))), (1, vI x1), (2, vI x2), (3, vI x3), (4, vI x4), (5, vI x5)] [] h) := by
  intro f
  induction f with
  | zero => intro lbl sx0 x1 x2 x3 x4 x5 h r h' E; cases E
  | succ f ih =>
    intro lbl sx0 x1 x2 x3 x4 x5 h r h' E hs
    unfold gX12_coming at E
    refine ⟨?_, ?_⟩
    · intro el
      subst el
      have E := (if_pos rfl).symm.trans E
      refine ea_aload_n (pc := 0) dX12_coming_0 rfl 0 rfl ?_
      refine ea_getR (pc := 1) dX12_coming_1 ec_12 (k := 16) (Nat.le_of_ble_eq_true rfl) rfl (Or.inl ew_1361) (hs.1 0 (by decide)).1 (hs.1 0 (by decide)).2.1 (hs.2 0 16 rfl) ?_
      refine ea_iload_n (pc := 4) dX12_coming_4 rfl 1 rfl ?_
      obtain ⟨z1, E⟩ := gd_some E
      refine ea_iald (pc := 5) dX12_coming_5 (hs.1 12 (by decide)).1 (hs.1 12 (by decide)).2.1 (ea_vpl (hs.1 12 (by decide)).2.2 z1) ?_
      refine ea_istore_n (pc := 6) (lv' := [(0, vR (some (b0 + 0))), (1, vI x1), (2, vI (ea_i h (b0 + 12) (Int32.toNatClampNeg x1)))]) dX12_coming_6 rfl (Nat.le_of_ble_eq_true rfl) [1, 2, 0] rfl ?_
      refine ea_aload_n (pc := 7) dX12_coming_7 rfl 0 rfl ?_
      refine ea_getR (pc := 8) dX12_coming_8 ec_12 (k := 17) (Nat.le_of_ble_eq_true rfl) rfl (Or.inl ew_1362) (hs.1 0 (by decide)).1 (hs.1 0 (by decide)).2.1 (hs.2 0 17 rfl) ?_
      refine ea_iload_n (pc := 11) dX12_coming_11 rfl 1 rfl ?_
      obtain ⟨z2, E⟩ := gd_some E
      refine ea_iald (pc := 12) dX12_coming_12 (hs.1 13 (by decide)).1 (hs.1 13 (by decide)).2.1 (ea_vpl (hs.1 13 (by decide)).2.2 z2) ?_
      refine ea_istore_n (pc := 13) (lv' := [(0, vR (some (b0 + 0))), (1, vI x1), (2, vI (ea_i h (b0 + 12) (Int32.toNatClampNeg x1))), (3, vI (ea_i h (b0 + 13) (Int32.toNatClampNeg x1)))]) dX12_coming_13 rfl (Nat.le_of_ble_eq_true rfl) [1, 2, 3, 0] rfl ?_
      refine ea_iload_n (pc := 14) dX12_coming_14 rfl 3 rfl ?_
      refine ea_aload_n (pc := 15) dX12_coming_15 rfl 0 rfl ?_
      refine ea_getR (pc := 16) dX12_coming_16 ec_12 (k := 4) (Nat.le_of_ble_eq_true rfl) rfl (Or.inl ew_1349) (hs.1 0 (by decide)).1 (hs.1 0 (by decide)).2.1 (hs.2 0 4 rfl) ?_
      refine ea_iload_n (pc := 19) dX12_coming_19 rfl 2 rfl ?_
      refine ea_bipush (pc := 20) dX12_coming_20 (v := 7) rfl ?_
      refine ea_idiv (pc := 22) dX12_coming_22 (by decide) ?_
      obtain ⟨z3, E⟩ := gd_some E
      refine ea_iald (pc := 23) dX12_coming_23 (hs.1 2 (by decide)).1 (hs.1 2 (by decide)).2.1 (ea_vpl (hs.1 2 (by decide)).2.2 z3) ?_
      refine ea_iconst (pc := 24) dX12_coming_24 (v := 1) rfl ?_
      refine ea_isub (pc := 25) dX12_coming_25 ?_
      refine ea_icmp_ne (pc := 26) (tgt := 33) dX12_coming_26 rfl (fun c4 => ?_) (fun c4 => ?_)
      · have E := (if_neg c4).symm.trans E
        refine ea_iconst (pc := 33) dX12_coming_33 (v := 0) rfl ?_
        exact ((ih 34 (0 : Int32) (x1 : Int32) ((ea_i h (b0 + 12) (Int32.toNatClampNeg x1)) : Int32) ((ea_i h (b0 + 13) (Int32.toNatClampNeg x1)) : Int32) 0 0 h _ _ E hs).2.1 rfl)
      · have E := (if_pos c4).symm.trans E
        refine ea_iconst (pc := 29) dX12_coming_29 (v := 1) rfl ?_
        refine ea_goto (pc := 30) (tgt := 34) dX12_coming_30 rfl ?_
        exact ((ih 34 (1 : Int32) (x1 : Int32) ((ea_i h (b0 + 12) (Int32.toNatClampNeg x1)) : Int32) ((ea_i h (b0 + 13) (Int32.toNatClampNeg x1)) : Int32) 0 0 h _ _ E hs).2.1 rfl)
    refine ⟨?_, ?_⟩
    · intro el
      subst el
      have E := (if_neg (by decide)).symm.trans E
      have E := (if_pos rfl).symm.trans E
      refine ea_istore (pc := 34) (lv' := [(0, vR (some (b0 + 0))), (1, vI x1), (2, vI x2), (3, vI x3), (4, vI sx0)]) dX12_coming_34 (Nat.le_of_ble_eq_true rfl) [1, 2, 3, 4, 0] rfl ?_
      refine ea_aload_n (pc := 36) dX12_coming_36 rfl 0 rfl ?_
      refine ea_getR (pc := 37) dX12_coming_37 ec_12 (k := 10) (Nat.le_of_ble_eq_true rfl) rfl (Or.inl ew_1355) (hs.1 0 (by decide)).1 (hs.1 0 (by decide)).2.1 (hs.2 0 10 rfl) ?_
      refine ea_bipush (pc := 40) dX12_coming_40 (v := 8) rfl ?_
      refine ea_iload_n (pc := 42) dX12_coming_42 rfl 2 rfl ?_
      refine ea_imul (pc := 43) dX12_coming_43 ?_
      refine ea_iload_n (pc := 44) dX12_coming_44 rfl 3 rfl ?_
      refine ea_iadd (pc := 45) dX12_coming_45 ?_
      obtain ⟨z5, E⟩ := gd_some E
      refine ea_zald (pc := 46) dX12_coming_46 (hs.1 8 (by decide)).1 (hs.1 8 (by decide)).2.1 (ea_vpl (hs.1 8 (by decide)).2.2 z5) ?_
      refine ea_if_eq (pc := 47) (tgt := 51) dX12_coming_47 rfl (fun c6 => ?_) (fun c6 => ?_)
      · have E := (if_pos c6).symm.trans E
        refine ea_iconst (pc := 51) dX12_coming_51 (v := 0) rfl ?_
        refine ea_istore (pc := 52) (lv' := [(0, vR (some (b0 + 0))), (1, vI x1), (2, vI x2), (3, vI x3), (4, vI sx0), (5, vI 0)]) dX12_coming_52 (Nat.le_of_ble_eq_true rfl) [1, 2, 3, 4, 5, 0] rfl ?_
        exact ((ih 54 0 (x1 : Int32) (x2 : Int32) (x3 : Int32) (sx0 : Int32) (0 : Int32) h _ _ E hs).2.2.1 rfl)
      · have E := (if_neg c6).symm.trans E
        exact ea_vretO (pc := 50) dX12_coming_50 rfl E
    refine ⟨?_, ?_⟩
    · intro el
      subst el
      have E := (if_neg (by decide)).symm.trans E
      have E := (if_neg (by decide)).symm.trans E
      have E := (if_pos rfl).symm.trans E
      refine ea_iload (pc := 54) dX12_coming_54 5 rfl ?_
      refine ea_aload_n (pc := 56) dX12_coming_56 rfl 0 rfl ?_
      refine ea_getI (pc := 57) dX12_coming_57 ec_12 (k := 63) (Nat.le_of_ble_eq_true rfl) rfl (Or.inl ew_1408) (hs.1 0 (by decide)).1 (hs.1 0 (by decide)).2.1 ?_
      refine ea_icmp_ge (pc := 60) (tgt := 178) dX12_coming_60 rfl (fun c17 => ?_) (fun c17 => ?_)
      · have E := (if_pos c17).symm.trans E
        exact ea_vretO (pc := 178) dX12_coming_178 rfl E
      · have E := (if_neg c17).symm.trans E
        refine ea_aload_n (pc := 63) dX12_coming_63 rfl 0 rfl ?_
        refine ea_iload (pc := 64) dX12_coming_64 5 rfl ?_
        refine ea_iload_n (pc := 66) dX12_coming_66 rfl 2 rfl ?_
        obtain ⟨z7, E⟩ := gd_some E
        refine ea_callV (pc := 67) (d' := d - 1) (As := [vI x5, vI x2]) (st := []) dX12_coming_67 kX12_isAboard (sX12_isAboard (d := d - 1) (by omega) hs z7) (by omega) rfl (Nat.le_of_ble_eq_true rfl) ew_2067 ew_2069 ew_95 (ci := 12) rfl (by decide) (hs.1 0 (by decide)).1 (hs.1 0 (by decide)).2.1 ?_
        refine ea_if_ne (pc := 70) (tgt := 76) dX12_coming_70 rfl (fun c16 => ?_) (fun c16 => ?_)
        · have E := (if_neg c16).symm.trans E
          refine ea_aload_n (pc := 76) dX12_coming_76 rfl 0 rfl ?_
          refine ea_getR (pc := 77) dX12_coming_77 ec_12 (k := 87) (Nat.le_of_ble_eq_true rfl) rfl (Or.inl ew_1432) (hs.1 0 (by decide)).1 (hs.1 0 (by decide)).2.1 (hs.2 0 87 rfl) ?_
          refine ea_iload (pc := 80) dX12_coming_80 5 rfl ?_
          obtain ⟨z8, E⟩ := gd_some E
          refine ea_zald (pc := 82) dX12_coming_82 (hs.1 61 (by decide)).1 (hs.1 61 (by decide)).2.1 (ea_vpl (hs.1 61 (by decide)).2.2 z8) ?_
          refine ea_if_eq (pc := 83) (tgt := 118) dX12_coming_83 rfl (fun c15 => ?_) (fun c15 => ?_)
          · have E := (if_pos c15).symm.trans E
            exact ((ih 118 0 (x1 : Int32) (x2 : Int32) (x3 : Int32) (x4 : Int32) (x5 : Int32) h _ _ E hs).2.2.2.1 rfl)
          · have E := (if_neg c15).symm.trans E
            refine ea_aload_n (pc := 86) dX12_coming_86 rfl 0 rfl ?_
            refine ea_getR (pc := 87) dX12_coming_87 ec_12 (k := 83) (Nat.le_of_ble_eq_true rfl) rfl (Or.inl ew_1428) (hs.1 0 (by decide)).1 (hs.1 0 (by decide)).2.1 (hs.2 0 83 rfl) ?_
            refine ea_iload (pc := 90) dX12_coming_90 5 rfl ?_
            obtain ⟨z9, E⟩ := gd_some E
            refine ea_iald (pc := 92) dX12_coming_92 (hs.1 57 (by decide)).1 (hs.1 57 (by decide)).2.1 (ea_vpl (hs.1 57 (by decide)).2.2 z9) ?_
            refine ea_iload_n (pc := 93) dX12_coming_93 rfl 3 rfl ?_
            refine ea_icmp_gt (pc := 94) (tgt := 118) dX12_coming_94 rfl (fun c14 => ?_) (fun c14 => ?_)
            · have E := (if_pos c14).symm.trans E
              exact ((ih 118 0 (x1 : Int32) (x2 : Int32) (x3 : Int32) (x4 : Int32) (x5 : Int32) h _ _ E hs).2.2.2.1 rfl)
            · have E := (if_neg c14).symm.trans E
              refine ea_aload_n (pc := 97) dX12_coming_97 rfl 0 rfl ?_
              refine ea_iload (pc := 98) dX12_coming_98 5 rfl ?_
              refine ea_aload_n (pc := 100) dX12_coming_100 rfl 0 rfl ?_
              refine ea_getR (pc := 101) dX12_coming_101 ec_12 (k := 14) (Nat.le_of_ble_eq_true rfl) rfl (Or.inl ew_1359) (hs.1 0 (by decide)).1 (hs.1 0 (by decide)).2.1 (hs.2 0 14 rfl) ?_
              refine ea_iload_n (pc := 104) dX12_coming_104 rfl 1 rfl ?_
              obtain ⟨z10, E⟩ := gd_some E
              refine ea_iald (pc := 105) dX12_coming_105 (hs.1 10 (by decide)).1 (hs.1 10 (by decide)).2.1 (ea_vpl (hs.1 10 (by decide)).2.2 z10) ?_
              refine ea_aload_n (pc := 106) dX12_coming_106 rfl 0 rfl ?_
              refine ea_iload_n (pc := 107) dX12_coming_107 rfl 2 rfl ?_
              refine ea_iload_n (pc := 108) dX12_coming_108 rfl 3 rfl ?_
              obtain ⟨z11, E⟩ := gd_some E
              refine ea_callV (pc := 109) (d' := d - 1) (As := [vI x2, vI x3]) (st := [vI (ea_i h (b0 + 10) (Int32.toNatClampNeg x1)), vI x5, vR (some (b0 + 0))]) dX12_coming_109 kX12_townOf (sX12_townOf (d := d - 1) (by omega) hs z11) (by omega) rfl (Nat.le_of_ble_eq_true rfl) ew_1798 ew_1800 ew_60 (ci := 12) rfl (by decide) (hs.1 0 (by decide)).1 (hs.1 0 (by decide)).2.1 ?_
              obtain ⟨z12, E⟩ := gd_some E
              refine ea_callV (pc := 112) (d' := d - 1) (As := [vI x5, vI (ea_i h (b0 + 10) (Int32.toNatClampNeg x1)), vI (vX12_townOf b0 (x2 : Int32) (x3 : Int32) h)]) (st := []) dX12_coming_112 kX12_putsDown (sX12_putsDown (d := d - 1) (by omega) hs z12) (by omega) rfl (Nat.le_of_ble_eq_true rfl) ew_2074 ew_2076 ew_96 (ci := 12) rfl (by decide) (hs.1 0 (by decide)).1 (hs.1 0 (by decide)).2.1 ?_
              have hs13 : ShM b0 (wX12_putsDown b0 (x5 : Int32) ((ea_i h (b0 + 10) (Int32.toNatClampNeg x1)) : Int32) ((vX12_townOf b0 (x2 : Int32) (x3 : Int32) h) : Int32) h) := shX12_putsDown hs
              refine ea_goto (pc := 115) (tgt := 172) dX12_coming_115 rfl ?_
              refine ea_iinc (pc := 172) (v := 1) (lv' := [(0, vR (some (b0 + 0))), (1, vI x1), (2, vI x2), (3, vI x3), (4, vI x4), (5, vI (x5 + (1 : Int32)))]) dX12_coming_172 5 rfl rfl (Nat.le_of_ble_eq_true rfl) [1, 2, 3, 4, 5, 0] rfl ?_
              refine ea_goto (pc := 175) (tgt := 54) dX12_coming_175 rfl ?_
              exact ((ih 54 0 (x1 : Int32) (x2 : Int32) (x3 : Int32) (x4 : Int32) ((x5 + (1 : Int32)) : Int32) (wX12_putsDown b0 (x5 : Int32) ((ea_i h (b0 + 10) (Int32.toNatClampNeg x1)) : Int32) ((vX12_townOf b0 (x2 : Int32) (x3 : Int32) h) : Int32) h) _ _ E hs13).2.2.1 rfl)
        · have E := (if_pos c16).symm.trans E
          refine ea_goto (pc := 73) (tgt := 172) dX12_coming_73 rfl ?_
          refine ea_iinc (pc := 172) (v := 1) (lv' := [(0, vR (some (b0 + 0))), (1, vI x1), (2, vI x2), (3, vI x3), (4, vI x4), (5, vI (x5 + (1 : Int32)))]) dX12_coming_172 5 rfl rfl (Nat.le_of_ble_eq_true rfl) [1, 2, 3, 4, 5, 0] rfl ?_
          refine ea_goto (pc := 175) (tgt := 54) dX12_coming_175 rfl ?_
          exact ((ih 54 0 (x1 : Int32) (x2 : Int32) (x3 : Int32) (x4 : Int32) ((x5 + (1 : Int32)) : Int32) h _ _ E hs).2.2.1 rfl)
    refine ⟨?_, ?_⟩
    · intro el
      subst el
      have E := (if_neg (by decide)).symm.trans E
      have E := (if_neg (by decide)).symm.trans E
      have E := (if_neg (by decide)).symm.trans E
      have E := (if_pos rfl).symm.trans E
      refine ea_iload (pc := 118) dX12_coming_118 4 rfl ?_
      refine ea_if_eq (pc := 120) (tgt := 172) dX12_coming_120 rfl (fun c26 => ?_) (fun c26 => ?_)
      · have E := (if_pos c26).symm.trans E
        refine ea_iinc (pc := 172) (v := 1) (lv' := [(0, vR (some (b0 + 0))), (1, vI x1), (2, vI x2), (3, vI x3), (4, vI x4), (5, vI (x5 + (1 : Int32)))]) dX12_coming_172 5 rfl rfl (Nat.le_of_ble_eq_true rfl) [1, 2, 3, 4, 5, 0] rfl ?_
        refine ea_goto (pc := 175) (tgt := 54) dX12_coming_175 rfl ?_
        exact ((ih 54 0 (x1 : Int32) (x2 : Int32) (x3 : Int32) (x4 : Int32) ((x5 + (1 : Int32)) : Int32) h _ _ E hs).2.2.1 rfl)
      · have E := (if_neg c26).symm.trans E
        refine ea_aload_n (pc := 123) dX12_coming_123 rfl 0 rfl ?_
        refine ea_getR (pc := 124) dX12_coming_124 ec_12 (k := 87) (Nat.le_of_ble_eq_true rfl) rfl (Or.inl ew_1432) (hs.1 0 (by decide)).1 (hs.1 0 (by decide)).2.1 (hs.2 0 87 rfl) ?_
        refine ea_iload (pc := 127) dX12_coming_127 5 rfl ?_
        obtain ⟨z18, E⟩ := gd_some E
        refine ea_zald (pc := 129) dX12_coming_129 (hs.1 61 (by decide)).1 (hs.1 61 (by decide)).2.1 (ea_vpl (hs.1 61 (by decide)).2.2 z18) ?_
        refine ea_if_ne (pc := 130) (tgt := 154) dX12_coming_130 rfl (fun c25 => ?_) (fun c25 => ?_)
        · have E := (if_neg c25).symm.trans E
          exact ((ih 154 0 (x1 : Int32) (x2 : Int32) (x3 : Int32) (x4 : Int32) (x5 : Int32) h _ _ E hs).2.2.2.2 rfl)
        · have E := (if_pos c25).symm.trans E
          refine ea_aload_n (pc := 133) dX12_coming_133 rfl 0 rfl ?_
          refine ea_getR (pc := 134) dX12_coming_134 ec_12 (k := 84) (Nat.le_of_ble_eq_true rfl) rfl (Or.inl ew_1429) (hs.1 0 (by decide)).1 (hs.1 0 (by decide)).2.1 (hs.2 0 84 rfl) ?_
          refine ea_iload (pc := 137) dX12_coming_137 5 rfl ?_
          refine ea_dup2 (pc := 139) dX12_coming_139 rfl rfl ?_
          obtain ⟨z19, E⟩ := gd_some E
          refine ea_iald (pc := 140) dX12_coming_140 (hs.1 58 (by decide)).1 (hs.1 58 (by decide)).2.1 (ea_vpl (hs.1 58 (by decide)).2.2 z19) ?_
          refine ea_iconst (pc := 141) dX12_coming_141 (v := 1) rfl ?_
          refine ea_iadd (pc := 142) dX12_coming_142 ?_
          obtain ⟨z20, E⟩ := gd_some E
          refine ea_iast (pc := 143) dX12_coming_143 (hs.1 58 (by decide)).1 (hs.1 58 (by decide)).2.1 (ea_vpl (hs.1 58 (by decide)).2.2 z20) ?_
          have hs21 : ShM b0 (ea_wi h (b0 + 58) (Int32.toNatClampNeg x5) ((ea_i h (b0 + 58) (Int32.toNatClampNeg x5)) + (1 : Int32))) := ShM_wi hs
          refine ea_aload_n (pc := 144) dX12_coming_144 rfl 0 rfl ?_
          refine ea_getR (pc := 145) dX12_coming_145 ec_12 (k := 86) (Nat.le_of_ble_eq_true rfl) rfl (Or.inl ew_1431) (hs21.1 0 (by decide)).1 (hs21.1 0 (by decide)).2.1 (hs21.2 0 86 rfl) ?_
          refine ea_iload_n (pc := 148) dX12_coming_148 rfl 2 rfl ?_
          refine ea_dup2 (pc := 149) dX12_coming_149 rfl rfl ?_
          obtain ⟨z22, E⟩ := gd_some E
          refine ea_iald (pc := 150) dX12_coming_150 (hs21.1 60 (by decide)).1 (hs21.1 60 (by decide)).2.1 (ea_vpl (hs21.1 60 (by decide)).2.2 z22) ?_
          refine ea_iconst (pc := 151) dX12_coming_151 (v := 1) rfl ?_
          refine ea_iadd (pc := 152) dX12_coming_152 ?_
          obtain ⟨z23, E⟩ := gd_some E
          refine ea_iast (pc := 153) dX12_coming_153 (hs21.1 60 (by decide)).1 (hs21.1 60 (by decide)).2.1 (ea_vpl (hs21.1 60 (by decide)).2.2 z23) ?_
          have hs24 : ShM b0 (ea_wi (ea_wi h (b0 + 58) (Int32.toNatClampNeg x5) ((ea_i h (b0 + 58) (Int32.toNatClampNeg x5)) + (1 : Int32))) (b0 + 60) (Int32.toNatClampNeg x2) ((ea_i (ea_wi h (b0 + 58) (Int32.toNatClampNeg x5) ((ea_i h (b0 + 58) (Int32.toNatClampNeg x5)) + (1 : Int32))) (b0 + 60) (Int32.toNatClampNeg x2)) + (1 : Int32))) := ShM_wi hs21
          exact ((ih 154 0 (x1 : Int32) (x2 : Int32) (x3 : Int32) (x4 : Int32) (x5 : Int32) (ea_wi (ea_wi h (b0 + 58) (Int32.toNatClampNeg x5) ((ea_i h (b0 + 58) (Int32.toNatClampNeg x5)) + (1 : Int32))) (b0 + 60) (Int32.toNatClampNeg x2) ((ea_i (ea_wi h (b0 + 58) (Int32.toNatClampNeg x5) ((ea_i h (b0 + 58) (Int32.toNatClampNeg x5)) + (1 : Int32))) (b0 + 60) (Int32.toNatClampNeg x2)) + (1 : Int32))) _ _ E hs24).2.2.2.2 rfl)
    intro el
    subst el
    have E := (if_neg (by decide)).symm.trans E
    have E := (if_neg (by decide)).symm.trans E
    have E := (if_neg (by decide)).symm.trans E
    have E := (if_neg (by decide)).symm.trans E
    have E := (if_pos rfl).symm.trans E
    refine ea_aload_n (pc := 154) dX12_coming_154 rfl 0 rfl ?_
    refine ea_iload (pc := 155) dX12_coming_155 5 rfl ?_
    refine ea_aload_n (pc := 157) dX12_coming_157 rfl 0 rfl ?_
    refine ea_getR (pc := 158) dX12_coming_158 ec_12 (k := 14) (Nat.le_of_ble_eq_true rfl) rfl (Or.inl ew_1359) (hs.1 0 (by decide)).1 (hs.1 0 (by decide)).2.1 (hs.2 0 14 rfl) ?_
    refine ea_iload_n (pc := 161) dX12_coming_161 rfl 1 rfl ?_
    obtain ⟨z27, E⟩ := gd_some E
    refine ea_iald (pc := 162) dX12_coming_162 (hs.1 10 (by decide)).1 (hs.1 10 (by decide)).2.1 (ea_vpl (hs.1 10 (by decide)).2.2 z27) ?_
    refine ea_aload_n (pc := 163) dX12_coming_163 rfl 0 rfl ?_
    refine ea_iload_n (pc := 164) dX12_coming_164 rfl 2 rfl ?_
    refine ea_iload_n (pc := 165) dX12_coming_165 rfl 3 rfl ?_
    obtain ⟨z28, E⟩ := gd_some E
    refine ea_callV (pc := 166) (d' := d - 1) (As := [vI x2, vI x3]) (st := [vI (ea_i h (b0 + 10) (Int32.toNatClampNeg x1)), vI x5, vR (some (b0 + 0))]) dX12_coming_166 kX12_townOf (sX12_townOf (d := d - 1) (by omega) hs z28) (by omega) rfl (Nat.le_of_ble_eq_true rfl) ew_1798 ew_1800 ew_60 (ci := 12) rfl (by decide) (hs.1 0 (by decide)).1 (hs.1 0 (by decide)).2.1 ?_
    obtain ⟨z29, E⟩ := gd_some E
    refine ea_callV (pc := 169) (d' := d - 1) (As := [vI x5, vI (ea_i h (b0 + 10) (Int32.toNatClampNeg x1)), vI (vX12_townOf b0 (x2 : Int32) (x3 : Int32) h)]) (st := []) dX12_coming_169 kX12_putsDown (sX12_putsDown (d := d - 1) (by omega) hs z29) (by omega) rfl (Nat.le_of_ble_eq_true rfl) ew_2074 ew_2076 ew_96 (ci := 12) rfl (by decide) (hs.1 0 (by decide)).1 (hs.1 0 (by decide)).2.1 ?_
    have hs30 : ShM b0 (wX12_putsDown b0 (x5 : Int32) ((ea_i h (b0 + 10) (Int32.toNatClampNeg x1)) : Int32) ((vX12_townOf b0 (x2 : Int32) (x3 : Int32) h) : Int32) h) := shX12_putsDown hs
    refine ea_iinc (pc := 172) (v := 1) (lv' := [(0, vR (some (b0 + 0))), (1, vI x1), (2, vI x2), (3, vI x3), (4, vI x4), (5, vI (x5 + (1 : Int32)))]) dX12_coming_172 5 rfl rfl (Nat.le_of_ble_eq_true rfl) [1, 2, 3, 4, 5, 0] rfl ?_
    refine ea_goto (pc := 175) (tgt := 54) dX12_coming_175 rfl ?_
    exact ((ih 54 0 (x1 : Int32) (x2 : Int32) (x3 : Int32) (x4 : Int32) ((x5 + (1 : Int32)) : Int32) (wX12_putsDown b0 (x5 : Int32) ((ea_i h (b0 + 10) (Int32.toNatClampNeg x1)) : Int32) ((vX12_townOf b0 (x2 : Int32) (x3 : Int32) h) : Int32) h) _ _ E hs30).2.2.1 rfl)
noncomputable def qX12_coming (b0 : Nat) (x1 : Int32) (h : ea_H) : Option (Unit × ea_H) := gX12_coming b0 1000000000 0 0 x1 0 0 0 0 h
def okX12_coming (b0 : Nat) (x1 : Int32) (h : ea_H) : Prop := ∃ x, qX12_coming b0 x1 h = some x
noncomputable def wX12_coming (b0 : Nat) (x1 : Int32) (h : ea_H) : ea_H := ((qX12_coming b0 x1 h).getD ((), h)).2
theorem sX12_coming {d : Nat} {b0 : Nat} {x1 : Int32} {h : ea_H} (hd : 3 ≤ d) (hs : ShM b0 h) (K : okX12_coming b0 x1 h) : ea_Met mX12_coming d [vR (some (b0 + 0)), vI x1] h none (wX12_coming b0 x1 h) := by
  obtain ⟨⟨x, y⟩, K⟩ := K
  unfold wX12_coming
  rw [K]
  unfold qX12_coming at K
  exact ea_enter rfl (Nat.le_of_ble_eq_true rfl) ((tX12_coming hd 1000000000 0 0 x1 0 0 0 0 h x y K hs).1 rfl)
theorem zX12_coming {b0 : Nat} : ∀ (f lbl : Nat) (sx0 : Int32) (x1 : Int32) (x2 : Int32) (x3 : Int32) (x4 : Int32) (x5 : Int32) (h : ea_H) (r : Unit) (h' : ea_H), gX12_coming b0 f lbl sx0 x1 x2 x3 x4 x5 h = some (r, h') → ShM b0 h → ShM b0 h' := by
  intro f
  induction f with
  | zero => intro lbl sx0 x1 x2 x3 x4 x5 h r h' E; cases E
  | succ f ih =>
    intro lbl sx0 x1 x2 x3 x4 x5 h r h' E hs
    unfold gX12_coming at E
    by_cases el0 : lbl = 0
    · have E := (if_pos el0).symm.trans E
      obtain ⟨z1, E⟩ := gd_some E
      obtain ⟨z2, E⟩ := gd_some E
      obtain ⟨z3, E⟩ := gd_some E
      by_cases c4 : (ea_i h (b0 + 13) (Int32.toNatClampNeg x1)) = ((ea_i h (b0 + 2) (Int32.toNatClampNeg ((ea_i h (b0 + 12) (Int32.toNatClampNeg x1)) / (7 : Int32)))) - (1 : Int32))
      · have E := (if_pos c4).symm.trans E
        exact ih 34 (1 : Int32) (x1 : Int32) ((ea_i h (b0 + 12) (Int32.toNatClampNeg x1)) : Int32) ((ea_i h (b0 + 13) (Int32.toNatClampNeg x1)) : Int32) 0 0 h _ _ E hs
      have E := (if_neg c4).symm.trans E
      exact ih 34 (0 : Int32) (x1 : Int32) ((ea_i h (b0 + 12) (Int32.toNatClampNeg x1)) : Int32) ((ea_i h (b0 + 13) (Int32.toNatClampNeg x1)) : Int32) 0 0 h _ _ E hs
    have E := (if_neg el0).symm.trans E
    by_cases el1 : lbl = 34
    · have E := (if_pos el1).symm.trans E
      obtain ⟨z5, E⟩ := gd_some E
      by_cases c6 : (ea_i h (b0 + 8) (Int32.toNatClampNeg (((8 : Int32) * x2) + x3))) = (0 : Int32)
      · have E := (if_pos c6).symm.trans E
        exact ih 54 0 (x1 : Int32) (x2 : Int32) (x3 : Int32) (sx0 : Int32) (0 : Int32) h _ _ E hs
      have E := (if_neg c6).symm.trans E
      exact ea_shO E hs
    have E := (if_neg el1).symm.trans E
    by_cases el2 : lbl = 54
    · have E := (if_pos el2).symm.trans E
      by_cases c17 : (ea_i h (b0 + 0) 63) ≤ x5
      · have E := (if_pos c17).symm.trans E
        exact ea_shO E hs
      have E := (if_neg c17).symm.trans E
      obtain ⟨z7, E⟩ := gd_some E
      by_cases c16 : (vX12_isAboard b0 (x5 : Int32) (x2 : Int32) h) = (0 : Int32)
      · have E := (if_pos c16).symm.trans E
        exact ih 54 0 (x1 : Int32) (x2 : Int32) (x3 : Int32) (x4 : Int32) ((x5 + (1 : Int32)) : Int32) h _ _ E hs
      have E := (if_neg c16).symm.trans E
      obtain ⟨z8, E⟩ := gd_some E
      by_cases c15 : (ea_i h (b0 + 61) (Int32.toNatClampNeg x5)) = (0 : Int32)
      · have E := (if_pos c15).symm.trans E
        exact ih 118 0 (x1 : Int32) (x2 : Int32) (x3 : Int32) (x4 : Int32) (x5 : Int32) h _ _ E hs
      have E := (if_neg c15).symm.trans E
      obtain ⟨z9, E⟩ := gd_some E
      by_cases c14 : x3 < (ea_i h (b0 + 57) (Int32.toNatClampNeg x5))
      · have E := (if_pos c14).symm.trans E
        exact ih 118 0 (x1 : Int32) (x2 : Int32) (x3 : Int32) (x4 : Int32) (x5 : Int32) h _ _ E hs
      have E := (if_neg c14).symm.trans E
      obtain ⟨z10, E⟩ := gd_some E
      obtain ⟨z11, E⟩ := gd_some E
      obtain ⟨z12, E⟩ := gd_some E
      exact ih 54 0 (x1 : Int32) (x2 : Int32) (x3 : Int32) (x4 : Int32) ((x5 + (1 : Int32)) : Int32) (wX12_putsDown b0 (x5 : Int32) ((ea_i h (b0 + 10) (Int32.toNatClampNeg x1)) : Int32) ((vX12_townOf b0 (x2 : Int32) (x3 : Int32) h) : Int32) h) _ _ E (shX12_putsDown hs)
    have E := (if_neg el2).symm.trans E
    by_cases el3 : lbl = 118
    · have E := (if_pos el3).symm.trans E
      by_cases c26 : x4 = (0 : Int32)
      · have E := (if_pos c26).symm.trans E
        exact ih 54 0 (x1 : Int32) (x2 : Int32) (x3 : Int32) (x4 : Int32) ((x5 + (1 : Int32)) : Int32) h _ _ E hs
      have E := (if_neg c26).symm.trans E
      obtain ⟨z18, E⟩ := gd_some E
      by_cases c25 : (ea_i h (b0 + 61) (Int32.toNatClampNeg x5)) = (0 : Int32)
      · have E := (if_pos c25).symm.trans E
        obtain ⟨z19, E⟩ := gd_some E
        obtain ⟨z20, E⟩ := gd_some E
        obtain ⟨z22, E⟩ := gd_some E
        obtain ⟨z23, E⟩ := gd_some E
        exact ih 154 0 (x1 : Int32) (x2 : Int32) (x3 : Int32) (x4 : Int32) (x5 : Int32) (ea_wi (ea_wi h (b0 + 58) (Int32.toNatClampNeg x5) ((ea_i h (b0 + 58) (Int32.toNatClampNeg x5)) + (1 : Int32))) (b0 + 60) (Int32.toNatClampNeg x2) ((ea_i (ea_wi h (b0 + 58) (Int32.toNatClampNeg x5) ((ea_i h (b0 + 58) (Int32.toNatClampNeg x5)) + (1 : Int32))) (b0 + 60) (Int32.toNatClampNeg x2)) + (1 : Int32))) _ _ E (ShM_wi (ShM_wi hs))
      have E := (if_neg c25).symm.trans E
      exact ih 154 0 (x1 : Int32) (x2 : Int32) (x3 : Int32) (x4 : Int32) (x5 : Int32) h _ _ E hs
    have E := (if_neg el3).symm.trans E
    by_cases el4 : lbl = 154
    · have E := (if_pos el4).symm.trans E
      obtain ⟨z27, E⟩ := gd_some E
      obtain ⟨z28, E⟩ := gd_some E
      obtain ⟨z29, E⟩ := gd_some E
      exact ih 54 0 (x1 : Int32) (x2 : Int32) (x3 : Int32) (x4 : Int32) ((x5 + (1 : Int32)) : Int32) (wX12_putsDown b0 (x5 : Int32) ((ea_i h (b0 + 10) (Int32.toNatClampNeg x1)) : Int32) ((vX12_townOf b0 (x2 : Int32) (x3 : Int32) h) : Int32) h) _ _ E (shX12_putsDown hs)
    have E := (if_neg el4).symm.trans E
    cases E
theorem shX12_coming {b0 : Nat} {x1 : Int32} {h : ea_H} (hs : ShM b0 h) : ShM b0 (wX12_coming b0 x1 h) := by
  unfold wX12_coming
  cases K : qX12_coming b0 x1 h with
  | none => exact hs
  | some x => obtain ⟨x, y⟩ := x; unfold qX12_coming at K; exact zX12_coming _ _ _ _ _ _ _ _ _ _ _ K hs
noncomputable def gX12_sorts (b0 : Nat) : Nat → Nat → Int32 → Int32 → Int32 → ea_H → Option (Unit × ea_H)
  | 0, _, _, _, _, _ => none
  | f + 1, lbl, x1, x2, x3, h =>
    if lbl = 0 then (gX12_sorts b0 f 2 (x1 : Int32) (x2 : Int32) (0 : Int32) h) else
    if lbl = 2 then (if (ea_i h (b0 + 0) 92) ≤ x3 then (some ((), h)) else (gd (vp_in x3 8) (if (ea_i h (b0 + 69) (Int32.toNatClampNeg x3)) = (0 : Int32) then (gX12_sorts b0 f 2 (x1 : Int32) (x2 : Int32) ((x3 + (1 : Int32)) : Int32) h) else (gd (vp_in x3 8) (if (((ea_i h (b0 + 67) (Int32.toNatClampNeg x3)) >>> (x2 &&& 31)) &&& (1 : Int32)) = (0 : Int32) then (gX12_sorts b0 f 2 (x1 : Int32) (x2 : Int32) ((x3 + (1 : Int32)) : Int32) h) else (gd (vp_in x3 8) (gd (vp_in x3 8) (gd (vp_in x1 120) (some ((), (ea_wi (ea_wi h (b0 + 69) (Int32.toNatClampNeg x3) ((ea_i h (b0 + 69) (Int32.toNatClampNeg x3)) - (1 : Int32))) (b0 + 61) (Int32.toNatClampNeg x1) 1))))))))))) else none
theorem tX12_sorts {d : Nat} {b0 : Nat} {h0 : ea_H} (hd : 1 ≤ d) : ∀ (f lbl : Nat) (x1 : Int32) (x2 : Int32) (x3 : Int32) (h : ea_H) (r : Unit) (h' : ea_H), gX12_sorts b0 f lbl x1 x2 x3 h = some (r, h') → ShM b0 h → (lbl = 0 → ea_W mX12_sorts d h0 none h' 0 [(0, vR (some (b0 + 0))), (1, vI x1), (2, vI x2)] [] h) ∧ (lbl = 2 → ea_W mX12_sorts d h0 none h' 2 [(0, vR (some (b0 + 0))), (1, vI x1), (2, vI x2), (3, vI x3)] [] h) := by
  intro f
  induction f with
  | zero => intro lbl x1 x2 x3 h r h' E; cases E
  | succ f ih =>
    intro lbl x1 x2 x3 h r h' E hs
    unfold gX12_sorts at E
    refine ⟨?_, ?_⟩
    · intro el
      subst el
      have E := (if_pos rfl).symm.trans E
      refine ea_iconst (pc := 0) dX12_sorts_0 (v := 0) rfl ?_
      refine ea_istore_n (pc := 1) (lv' := [(0, vR (some (b0 + 0))), (1, vI x1), (2, vI x2), (3, vI 0)]) dX12_sorts_1 rfl (Nat.le_of_ble_eq_true rfl) [1, 2, 3, 0] rfl ?_
      exact ((ih 2 (x1 : Int32) (x2 : Int32) (0 : Int32) h _ _ E hs).2 rfl)
    intro el
    subst el
    have E := (if_neg (by decide)).symm.trans E
    have E := (if_pos rfl).symm.trans E
    refine ea_iload_n (pc := 2) dX12_sorts_2 rfl 3 rfl ?_
    refine ea_aload_n (pc := 3) dX12_sorts_3 rfl 0 rfl ?_
    refine ea_getI (pc := 4) dX12_sorts_4 ec_12 (k := 92) (Nat.le_of_ble_eq_true rfl) rfl (Or.inl ew_1437) (hs.1 0 (by decide)).1 (hs.1 0 (by decide)).2.1 ?_
    refine ea_icmp_ge (pc := 7) (tgt := 59) dX12_sorts_7 rfl (fun c10 => ?_) (fun c10 => ?_)
    · have E := (if_pos c10).symm.trans E
      exact ea_vretO (pc := 59) dX12_sorts_59 rfl E
    · have E := (if_neg c10).symm.trans E
      refine ea_aload_n (pc := 10) dX12_sorts_10 rfl 0 rfl ?_
      refine ea_getR (pc := 11) dX12_sorts_11 ec_12 (k := 96) (Nat.le_of_ble_eq_true rfl) rfl (Or.inl ew_1441) (hs.1 0 (by decide)).1 (hs.1 0 (by decide)).2.1 (hs.2 0 96 rfl) ?_
      refine ea_iload_n (pc := 14) dX12_sorts_14 rfl 3 rfl ?_
      obtain ⟨z1, E⟩ := gd_some E
      refine ea_iald (pc := 15) dX12_sorts_15 (hs.1 69 (by decide)).1 (hs.1 69 (by decide)).2.1 (ea_vpl (hs.1 69 (by decide)).2.2 z1) ?_
      refine ea_if_eq (pc := 16) (tgt := 53) dX12_sorts_16 rfl (fun c9 => ?_) (fun c9 => ?_)
      · have E := (if_pos c9).symm.trans E
        refine ea_iinc (pc := 53) (v := 1) (lv' := [(0, vR (some (b0 + 0))), (1, vI x1), (2, vI x2), (3, vI (x3 + (1 : Int32)))]) dX12_sorts_53 3 rfl rfl (Nat.le_of_ble_eq_true rfl) [1, 2, 3, 0] rfl ?_
        refine ea_goto (pc := 56) (tgt := 2) dX12_sorts_56 rfl ?_
        exact ((ih 2 (x1 : Int32) (x2 : Int32) ((x3 + (1 : Int32)) : Int32) h _ _ E hs).2 rfl)
      · have E := (if_neg c9).symm.trans E
        refine ea_aload_n (pc := 19) dX12_sorts_19 rfl 0 rfl ?_
        refine ea_getR (pc := 20) dX12_sorts_20 ec_12 (k := 94) (Nat.le_of_ble_eq_true rfl) rfl (Or.inl ew_1439) (hs.1 0 (by decide)).1 (hs.1 0 (by decide)).2.1 (hs.2 0 94 rfl) ?_
        refine ea_iload_n (pc := 23) dX12_sorts_23 rfl 3 rfl ?_
        obtain ⟨z2, E⟩ := gd_some E
        refine ea_iald (pc := 24) dX12_sorts_24 (hs.1 67 (by decide)).1 (hs.1 67 (by decide)).2.1 (ea_vpl (hs.1 67 (by decide)).2.2 z2) ?_
        refine ea_iload_n (pc := 25) dX12_sorts_25 rfl 2 rfl ?_
        refine ea_ishr (pc := 26) dX12_sorts_26 ?_
        refine ea_iconst (pc := 27) dX12_sorts_27 (v := 1) rfl ?_
        refine ea_iand (pc := 28) dX12_sorts_28 ?_
        refine ea_if_ne (pc := 29) (tgt := 35) dX12_sorts_29 rfl (fun c8 => ?_) (fun c8 => ?_)
        · have E := (if_neg c8).symm.trans E
          refine ea_aload_n (pc := 35) dX12_sorts_35 rfl 0 rfl ?_
          refine ea_getR (pc := 36) dX12_sorts_36 ec_12 (k := 96) (Nat.le_of_ble_eq_true rfl) rfl (Or.inl ew_1441) (hs.1 0 (by decide)).1 (hs.1 0 (by decide)).2.1 (hs.2 0 96 rfl) ?_
          refine ea_iload_n (pc := 39) dX12_sorts_39 rfl 3 rfl ?_
          refine ea_dup2 (pc := 40) dX12_sorts_40 rfl rfl ?_
          obtain ⟨z3, E⟩ := gd_some E
          refine ea_iald (pc := 41) dX12_sorts_41 (hs.1 69 (by decide)).1 (hs.1 69 (by decide)).2.1 (ea_vpl (hs.1 69 (by decide)).2.2 z3) ?_
          refine ea_iconst (pc := 42) dX12_sorts_42 (v := 1) rfl ?_
          refine ea_isub (pc := 43) dX12_sorts_43 ?_
          obtain ⟨z4, E⟩ := gd_some E
          refine ea_iast (pc := 44) dX12_sorts_44 (hs.1 69 (by decide)).1 (hs.1 69 (by decide)).2.1 (ea_vpl (hs.1 69 (by decide)).2.2 z4) ?_
          have hs5 : ShM b0 (ea_wi h (b0 + 69) (Int32.toNatClampNeg x3) ((ea_i h (b0 + 69) (Int32.toNatClampNeg x3)) - (1 : Int32))) := ShM_wi hs
          refine ea_aload_n (pc := 45) dX12_sorts_45 rfl 0 rfl ?_
          refine ea_getR (pc := 46) dX12_sorts_46 ec_12 (k := 87) (Nat.le_of_ble_eq_true rfl) rfl (Or.inl ew_1432) (hs5.1 0 (by decide)).1 (hs5.1 0 (by decide)).2.1 (hs5.2 0 87 rfl) ?_
          refine ea_iload_n (pc := 49) dX12_sorts_49 rfl 1 rfl ?_
          refine ea_iconst (pc := 50) dX12_sorts_50 (v := 1) rfl ?_
          obtain ⟨z6, E⟩ := gd_some E
          refine ea_zast (pc := 51) dX12_sorts_51 (y := 1) (ea_bn (Or.inr rfl)) (hs5.1 61 (by decide)).1 (hs5.1 61 (by decide)).2.1 (ea_vpl (hs5.1 61 (by decide)).2.2 z6) ?_
          have hs7 : ShM b0 (ea_wi (ea_wi h (b0 + 69) (Int32.toNatClampNeg x3) ((ea_i h (b0 + 69) (Int32.toNatClampNeg x3)) - (1 : Int32))) (b0 + 61) (Int32.toNatClampNeg x1) 1) := ShM_wi hs5
          exact ea_vretO (pc := 52) dX12_sorts_52 rfl E
        · have E := (if_pos c8).symm.trans E
          refine ea_goto (pc := 32) (tgt := 53) dX12_sorts_32 rfl ?_
          refine ea_iinc (pc := 53) (v := 1) (lv' := [(0, vR (some (b0 + 0))), (1, vI x1), (2, vI x2), (3, vI (x3 + (1 : Int32)))]) dX12_sorts_53 3 rfl rfl (Nat.le_of_ble_eq_true rfl) [1, 2, 3, 0] rfl ?_
          refine ea_goto (pc := 56) (tgt := 2) dX12_sorts_56 rfl ?_
          exact ((ih 2 (x1 : Int32) (x2 : Int32) ((x3 + (1 : Int32)) : Int32) h _ _ E hs).2 rfl)
noncomputable def qX12_sorts (b0 : Nat) (x1 : Int32) (x2 : Int32) (h : ea_H) : Option (Unit × ea_H) := gX12_sorts b0 1000000000 0 x1 x2 0 h
def okX12_sorts (b0 : Nat) (x1 : Int32) (x2 : Int32) (h : ea_H) : Prop := ∃ x, qX12_sorts b0 x1 x2 h = some x
noncomputable def wX12_sorts (b0 : Nat) (x1 : Int32) (x2 : Int32) (h : ea_H) : ea_H := ((qX12_sorts b0 x1 x2 h).getD ((), h)).2
theorem sX12_sorts {d : Nat} {b0 : Nat} {x1 : Int32} {x2 : Int32} {h : ea_H} (hd : 1 ≤ d) (hs : ShM b0 h) (K : okX12_sorts b0 x1 x2 h) : ea_Met mX12_sorts d [vR (some (b0 + 0)), vI x1, vI x2] h none (wX12_sorts b0 x1 x2 h) := by
  obtain ⟨⟨x, y⟩, K⟩ := K
  unfold wX12_sorts
  rw [K]
  unfold qX12_sorts at K
  exact ea_enter rfl (Nat.le_of_ble_eq_true rfl) ((tX12_sorts hd 1000000000 0 x1 x2 0 h x y K hs).1 rfl)
theorem zX12_sorts {b0 : Nat} : ∀ (f lbl : Nat) (x1 : Int32) (x2 : Int32) (x3 : Int32) (h : ea_H) (r : Unit) (h' : ea_H), gX12_sorts b0 f lbl x1 x2 x3 h = some (r, h') → ShM b0 h → ShM b0 h' := by
  intro f
  induction f with
  | zero => intro lbl x1 x2 x3 h r h' E; cases E
  | succ f ih =>
    intro lbl x1 x2 x3 h r h' E hs
    unfold gX12_sorts at E
    by_cases el0 : lbl = 0
    · have E := (if_pos el0).symm.trans E
      exact ih 2 (x1 : Int32) (x2 : Int32) (0 : Int32) h _ _ E hs
    have E := (if_neg el0).symm.trans E
    by_cases el1 : lbl = 2
    · have E := (if_pos el1).symm.trans E
      by_cases c10 : (ea_i h (b0 + 0) 92) ≤ x3
      · have E := (if_pos c10).symm.trans E
        exact ea_shO E hs
      have E := (if_neg c10).symm.trans E
      obtain ⟨z1, E⟩ := gd_some E
      by_cases c9 : (ea_i h (b0 + 69) (Int32.toNatClampNeg x3)) = (0 : Int32)
      · have E := (if_pos c9).symm.trans E
        exact ih 2 (x1 : Int32) (x2 : Int32) ((x3 + (1 : Int32)) : Int32) h _ _ E hs
      have E := (if_neg c9).symm.trans E
      obtain ⟨z2, E⟩ := gd_some E
      by_cases c8 : (((ea_i h (b0 + 67) (Int32.toNatClampNeg x3)) >>> (x2 &&& 31)) &&& (1 : Int32)) = (0 : Int32)
      · have E := (if_pos c8).symm.trans E
        exact ih 2 (x1 : Int32) (x2 : Int32) ((x3 + (1 : Int32)) : Int32) h _ _ E hs
      have E := (if_neg c8).symm.trans E
      obtain ⟨z3, E⟩ := gd_some E
      obtain ⟨z4, E⟩ := gd_some E
      obtain ⟨z6, E⟩ := gd_some E
      exact ea_shO E (ShM_wi (ShM_wi hs))
    have E := (if_neg el1).symm.trans E
    cases E
theorem shX12_sorts {b0 : Nat} {x1 : Int32} {x2 : Int32} {h : ea_H} (hs : ShM b0 h) : ShM b0 (wX12_sorts b0 x1 x2 h) := by
  unfold wX12_sorts
  cases K : qX12_sorts b0 x1 x2 h with
  | none => exact hs
  | some x => obtain ⟨x, y⟩ := x; unfold qX12_sorts at K; exact zX12_sorts _ _ _ _ _ _ _ _ K hs
noncomputable def gX12_begins (b0 : Nat) : Nat → Nat → Int32 → Int32 → Int32 → Int32 → ea_H → Option (Unit × ea_H)
  | 0, _, _, _, _, _, _ => none
  | f + 1, lbl, sx0, sx1, x1, x2, h =>
    if lbl = 0 then (gX12_begins b0 f 2 0 0 (x1 : Int32) (0 : Int32) h) else
    if lbl = 2 then (if (ea_i h (b0 + 0) 63) ≤ x2 then (some ((), h)) else (gd (vp_in x2 120) (if (ea_i h (b0 + 55) (Int32.toNatClampNeg x2)) = (3 : Int32) then (gd (vp_in x2 120) (gd (vp_in x2 120) (gd (vp_in x2 120) (gd (vp_in x2 120) (if (ea_i (ea_wi h (b0 + 51) (Int32.toNatClampNeg x2) ((ea_i h (b0 + 51) (Int32.toNatClampNeg x2)) + (1 : Int32))) (b0 + 47) (Int32.toNatClampNeg x2)) = ((-1) : Int32) then (gX12_begins b0 f 64 (3 : Int32) ((ea_i (ea_wi h (b0 + 51) (Int32.toNatClampNeg x2) ((ea_i h (b0 + 51) (Int32.toNatClampNeg x2)) + (1 : Int32))) (b0 + 51) (Int32.toNatClampNeg x2)) : Int32) (x1 : Int32) (x2 : Int32) (ea_wi h (b0 + 51) (Int32.toNatClampNeg x2) ((ea_i h (b0 + 51) (Int32.toNatClampNeg x2)) + (1 : Int32)))) else (gd (vp_in x2 120) (gd (vp_in (ea_i (ea_wi h (b0 + 51) (Int32.toNatClampNeg x2) ((ea_i h (b0 + 51) (Int32.toNatClampNeg x2)) + (1 : Int32))) (b0 + 47) (Int32.toNatClampNeg x2)) 6) (gX12_begins b0 f 64 ((ea_i (ea_wi h (b0 + 51) (Int32.toNatClampNeg x2) ((ea_i h (b0 + 51) (Int32.toNatClampNeg x2)) + (1 : Int32))) (b0 + 28) (Int32.toNatClampNeg (ea_i (ea_wi h (b0 + 51) (Int32.toNatClampNeg x2) ((ea_i h (b0 + 51) (Int32.toNatClampNeg x2)) + (1 : Int32))) (b0 + 47) (Int32.toNatClampNeg x2)))) : Int32) ((ea_i (ea_wi h (b0 + 51) (Int32.toNatClampNeg x2) ((ea_i h (b0 + 51) (Int32.toNatClampNeg x2)) + (1 : Int32))) (b0 + 51) (Int32.toNatClampNeg x2)) : Int32) (x1 : Int32) (x2 : Int32) (ea_wi h (b0 + 51) (Int32.toNatClampNeg x2) ((ea_i h (b0 + 51) (Int32.toNatClampNeg x2)) + (1 : Int32))))))))))) else (gX12_begins b0 f 2 0 0 (x1 : Int32) ((x2 + (1 : Int32)) : Int32) h)))) else
    if lbl = 64 then (if sx1 < sx0 then (gX12_begins b0 f 2 0 0 (x1 : Int32) ((x2 + (1 : Int32)) : Int32) h) else (gd (vp_in x2 120) (gd ((okX12_turns b0 (x2 : Int32) (x1 : Int32) (6 : Int32) ((ea_i h (b0 + 56) (Int32.toNatClampNeg x2)) : Int32) h)) (gX12_begins b0 f 2 0 0 (x1 : Int32) ((x2 + (1 : Int32)) : Int32) (wX12_turns b0 (x2 : Int32) (x1 : Int32) (6 : Int32) ((ea_i h (b0 + 56) (Int32.toNatClampNeg x2)) : Int32) h))))) else none
theorem tX12_begins {d : Nat} {b0 : Nat} {h0 : ea_H} (hd : 2 ≤ d) : ∀ (f lbl : Nat) (sx0 : Int32) (sx1 : Int32) (x1 : Int32) (x2 : Int32) (h : ea_H) (r : Unit) (h' : ea_H), gX12_begins b0 f lbl sx0 sx1 x1 x2 h = some (r, h') → ShM b0 h → (lbl = 0 → ea_W mX12_begins d h0 none h' 0 [(0, vR (some (b0 + 0))), (1, vI x1)] [] h) ∧ (lbl = 2 → ea_W mX12_begins d h0 none h' 2 [(0, vR (some (b0 + 0))), (1, vI x1), (2, vI x2)] [] h) ∧ (lbl = 64 → ea_W mX12_begins d h0 none h' 64 [(0, vR (some (b0 + 0))), (1, vI x1), (2, vI x2)] [vI sx0, vI sx1] h) := by
  intro f
  induction f with
  | zero => intro lbl sx0 sx1 x1 x2 h r h' E; cases E
  | succ f ih =>
    intro lbl sx0 sx1 x1 x2 h r h' E hs
    unfold gX12_begins at E
    refine ⟨?_, ?_⟩
    · intro el
      subst el
      have E := (if_pos rfl).symm.trans E
      refine ea_iconst (pc := 0) dX12_begins_0 (v := 0) rfl ?_
      refine ea_istore_n (pc := 1) (lv' := [(0, vR (some (b0 + 0))), (1, vI x1), (2, vI 0)]) dX12_begins_1 rfl (Nat.le_of_ble_eq_true rfl) [1, 2, 0] rfl ?_
      exact ((ih 2 0 0 (x1 : Int32) (0 : Int32) h _ _ E hs).2.1 rfl)
    refine ⟨?_, ?_⟩
    · intro el
      subst el
      have E := (if_neg (by decide)).symm.trans E
      have E := (if_pos rfl).symm.trans E
      refine ea_iload_n (pc := 2) dX12_begins_2 rfl 2 rfl ?_
      refine ea_aload_n (pc := 3) dX12_begins_3 rfl 0 rfl ?_
      refine ea_getI (pc := 4) dX12_begins_4 ec_12 (k := 63) (Nat.le_of_ble_eq_true rfl) rfl (Or.inl ew_1408) (hs.1 0 (by decide)).1 (hs.1 0 (by decide)).2.1 ?_
      refine ea_icmp_ge (pc := 7) (tgt := 87) dX12_begins_7 rfl (fun c11 => ?_) (fun c11 => ?_)
      · have E := (if_pos c11).symm.trans E
        exact ea_vretO (pc := 87) dX12_begins_87 rfl E
      · have E := (if_neg c11).symm.trans E
        refine ea_aload_n (pc := 10) dX12_begins_10 rfl 0 rfl ?_
        refine ea_getR (pc := 11) dX12_begins_11 ec_12 (k := 81) (Nat.le_of_ble_eq_true rfl) rfl (Or.inl ew_1426) (hs.1 0 (by decide)).1 (hs.1 0 (by decide)).2.1 (hs.2 0 81 rfl) ?_
        refine ea_iload_n (pc := 14) dX12_begins_14 rfl 2 rfl ?_
        obtain ⟨z1, E⟩ := gd_some E
        refine ea_iald (pc := 15) dX12_begins_15 (hs.1 55 (by decide)).1 (hs.1 55 (by decide)).2.1 (ea_vpl (hs.1 55 (by decide)).2.2 z1) ?_
        refine ea_iconst (pc := 16) dX12_begins_16 (v := 3) rfl ?_
        refine ea_icmp_eq (pc := 17) (tgt := 23) dX12_begins_17 rfl (fun c10 => ?_) (fun c10 => ?_)
        · have E := (if_pos c10).symm.trans E
          refine ea_aload_n (pc := 23) dX12_begins_23 rfl 0 rfl ?_
          refine ea_getR (pc := 24) dX12_begins_24 ec_12 (k := 77) (Nat.le_of_ble_eq_true rfl) rfl (Or.inl ew_1422) (hs.1 0 (by decide)).1 (hs.1 0 (by decide)).2.1 (hs.2 0 77 rfl) ?_
          refine ea_iload_n (pc := 27) dX12_begins_27 rfl 2 rfl ?_
          refine ea_dup2 (pc := 28) dX12_begins_28 rfl rfl ?_
          obtain ⟨z2, E⟩ := gd_some E
          refine ea_iald (pc := 29) dX12_begins_29 (hs.1 51 (by decide)).1 (hs.1 51 (by decide)).2.1 (ea_vpl (hs.1 51 (by decide)).2.2 z2) ?_
          refine ea_iconst (pc := 30) dX12_begins_30 (v := 1) rfl ?_
          refine ea_iadd (pc := 31) dX12_begins_31 ?_
          obtain ⟨z3, E⟩ := gd_some E
          refine ea_iast (pc := 32) dX12_begins_32 (hs.1 51 (by decide)).1 (hs.1 51 (by decide)).2.1 (ea_vpl (hs.1 51 (by decide)).2.2 z3) ?_
          have hs4 : ShM b0 (ea_wi h (b0 + 51) (Int32.toNatClampNeg x2) ((ea_i h (b0 + 51) (Int32.toNatClampNeg x2)) + (1 : Int32))) := ShM_wi hs
          refine ea_aload_n (pc := 33) dX12_begins_33 rfl 0 rfl ?_
          refine ea_getR (pc := 34) dX12_begins_34 ec_12 (k := 77) (Nat.le_of_ble_eq_true rfl) rfl (Or.inl ew_1422) (hs4.1 0 (by decide)).1 (hs4.1 0 (by decide)).2.1 (hs4.2 0 77 rfl) ?_
          refine ea_iload_n (pc := 37) dX12_begins_37 rfl 2 rfl ?_
          obtain ⟨z5, E⟩ := gd_some E
          refine ea_iald (pc := 38) dX12_begins_38 (hs4.1 51 (by decide)).1 (hs4.1 51 (by decide)).2.1 (ea_vpl (hs4.1 51 (by decide)).2.2 z5) ?_
          refine ea_aload_n (pc := 39) dX12_begins_39 rfl 0 rfl ?_
          refine ea_getR (pc := 40) dX12_begins_40 ec_12 (k := 73) (Nat.le_of_ble_eq_true rfl) rfl (Or.inl ew_1418) (hs4.1 0 (by decide)).1 (hs4.1 0 (by decide)).2.1 (hs4.2 0 73 rfl) ?_
          refine ea_iload_n (pc := 43) dX12_begins_43 rfl 2 rfl ?_
          obtain ⟨z6, E⟩ := gd_some E
          refine ea_iald (pc := 44) dX12_begins_44 (hs4.1 47 (by decide)).1 (hs4.1 47 (by decide)).2.1 (ea_vpl (hs4.1 47 (by decide)).2.2 z6) ?_
          refine ea_iconst (pc := 45) dX12_begins_45 (v := (-1)) rfl ?_
          refine ea_icmp_ne (pc := 46) (tgt := 53) dX12_begins_46 rfl (fun c9 => ?_) (fun c9 => ?_)
          · have E := (if_neg c9).symm.trans E
            refine ea_aload_n (pc := 53) dX12_begins_53 rfl 0 rfl ?_
            refine ea_getR (pc := 54) dX12_begins_54 ec_12 (k := 33) (Nat.le_of_ble_eq_true rfl) rfl (Or.inl ew_1378) (hs4.1 0 (by decide)).1 (hs4.1 0 (by decide)).2.1 (hs4.2 0 33 rfl) ?_
            refine ea_aload_n (pc := 57) dX12_begins_57 rfl 0 rfl ?_
            refine ea_getR (pc := 58) dX12_begins_58 ec_12 (k := 73) (Nat.le_of_ble_eq_true rfl) rfl (Or.inl ew_1418) (hs4.1 0 (by decide)).1 (hs4.1 0 (by decide)).2.1 (hs4.2 0 73 rfl) ?_
            refine ea_iload_n (pc := 61) dX12_begins_61 rfl 2 rfl ?_
            obtain ⟨z7, E⟩ := gd_some E
            refine ea_iald (pc := 62) dX12_begins_62 (hs4.1 47 (by decide)).1 (hs4.1 47 (by decide)).2.1 (ea_vpl (hs4.1 47 (by decide)).2.2 z7) ?_
            obtain ⟨z8, E⟩ := gd_some E
            refine ea_iald (pc := 63) dX12_begins_63 (hs4.1 28 (by decide)).1 (hs4.1 28 (by decide)).2.1 (ea_vpl (hs4.1 28 (by decide)).2.2 z8) ?_
            exact ((ih 64 ((ea_i (ea_wi h (b0 + 51) (Int32.toNatClampNeg x2) ((ea_i h (b0 + 51) (Int32.toNatClampNeg x2)) + (1 : Int32))) (b0 + 28) (Int32.toNatClampNeg (ea_i (ea_wi h (b0 + 51) (Int32.toNatClampNeg x2) ((ea_i h (b0 + 51) (Int32.toNatClampNeg x2)) + (1 : Int32))) (b0 + 47) (Int32.toNatClampNeg x2)))) : Int32) ((ea_i (ea_wi h (b0 + 51) (Int32.toNatClampNeg x2) ((ea_i h (b0 + 51) (Int32.toNatClampNeg x2)) + (1 : Int32))) (b0 + 51) (Int32.toNatClampNeg x2)) : Int32) (x1 : Int32) (x2 : Int32) (ea_wi h (b0 + 51) (Int32.toNatClampNeg x2) ((ea_i h (b0 + 51) (Int32.toNatClampNeg x2)) + (1 : Int32))) _ _ E hs4).2.2 rfl)
          · have E := (if_pos c9).symm.trans E
            refine ea_iconst (pc := 49) dX12_begins_49 (v := 3) rfl ?_
            refine ea_goto (pc := 50) (tgt := 64) dX12_begins_50 rfl ?_
            exact ((ih 64 (3 : Int32) ((ea_i (ea_wi h (b0 + 51) (Int32.toNatClampNeg x2) ((ea_i h (b0 + 51) (Int32.toNatClampNeg x2)) + (1 : Int32))) (b0 + 51) (Int32.toNatClampNeg x2)) : Int32) (x1 : Int32) (x2 : Int32) (ea_wi h (b0 + 51) (Int32.toNatClampNeg x2) ((ea_i h (b0 + 51) (Int32.toNatClampNeg x2)) + (1 : Int32))) _ _ E hs4).2.2 rfl)
        · have E := (if_neg c10).symm.trans E
          refine ea_goto (pc := 20) (tgt := 81) dX12_begins_20 rfl ?_
          refine ea_iinc (pc := 81) (v := 1) (lv' := [(0, vR (some (b0 + 0))), (1, vI x1), (2, vI (x2 + (1 : Int32)))]) dX12_begins_81 2 rfl rfl (Nat.le_of_ble_eq_true rfl) [1, 2, 0] rfl ?_
          refine ea_goto (pc := 84) (tgt := 2) dX12_begins_84 rfl ?_
          exact ((ih 2 0 0 (x1 : Int32) ((x2 + (1 : Int32)) : Int32) h _ _ E hs).2.1 rfl)
    intro el
    subst el
    have E := (if_neg (by decide)).symm.trans E
    have E := (if_neg (by decide)).symm.trans E
    have E := (if_pos rfl).symm.trans E
    refine ea_icmp_lt (pc := 64) (tgt := 81) dX12_begins_64 rfl (fun c15 => ?_) (fun c15 => ?_)
    · have E := (if_pos c15).symm.trans E
      refine ea_iinc (pc := 81) (v := 1) (lv' := [(0, vR (some (b0 + 0))), (1, vI x1), (2, vI (x2 + (1 : Int32)))]) dX12_begins_81 2 rfl rfl (Nat.le_of_ble_eq_true rfl) [1, 2, 0] rfl ?_
      refine ea_goto (pc := 84) (tgt := 2) dX12_begins_84 rfl ?_
      exact ((ih 2 0 0 (x1 : Int32) ((x2 + (1 : Int32)) : Int32) h _ _ E hs).2.1 rfl)
    · have E := (if_neg c15).symm.trans E
      refine ea_aload_n (pc := 67) dX12_begins_67 rfl 0 rfl ?_
      refine ea_iload_n (pc := 68) dX12_begins_68 rfl 2 rfl ?_
      refine ea_iload_n (pc := 69) dX12_begins_69 rfl 1 rfl ?_
      refine ea_bipush (pc := 70) dX12_begins_70 (v := 6) rfl ?_
      refine ea_aload_n (pc := 72) dX12_begins_72 rfl 0 rfl ?_
      refine ea_getR (pc := 73) dX12_begins_73 ec_12 (k := 82) (Nat.le_of_ble_eq_true rfl) rfl (Or.inl ew_1427) (hs.1 0 (by decide)).1 (hs.1 0 (by decide)).2.1 (hs.2 0 82 rfl) ?_
      refine ea_iload_n (pc := 76) dX12_begins_76 rfl 2 rfl ?_
      obtain ⟨z12, E⟩ := gd_some E
      refine ea_iald (pc := 77) dX12_begins_77 (hs.1 56 (by decide)).1 (hs.1 56 (by decide)).2.1 (ea_vpl (hs.1 56 (by decide)).2.2 z12) ?_
      obtain ⟨z13, E⟩ := gd_some E
      refine ea_callV (pc := 78) (d' := d - 1) (As := [vI x2, vI x1, vI 6, vI (ea_i h (b0 + 56) (Int32.toNatClampNeg x2))]) (st := []) dX12_begins_78 kX12_turns (sX12_turns (d := d - 1) (by omega) hs z13) (by omega) rfl (Nat.le_of_ble_eq_true rfl) ew_2011 ew_2013 ew_88 (ci := 12) rfl (by decide) (hs.1 0 (by decide)).1 (hs.1 0 (by decide)).2.1 ?_
      have hs14 : ShM b0 (wX12_turns b0 (x2 : Int32) (x1 : Int32) (6 : Int32) ((ea_i h (b0 + 56) (Int32.toNatClampNeg x2)) : Int32) h) := shX12_turns hs
      refine ea_iinc (pc := 81) (v := 1) (lv' := [(0, vR (some (b0 + 0))), (1, vI x1), (2, vI (x2 + (1 : Int32)))]) dX12_begins_81 2 rfl rfl (Nat.le_of_ble_eq_true rfl) [1, 2, 0] rfl ?_
      refine ea_goto (pc := 84) (tgt := 2) dX12_begins_84 rfl ?_
      exact ((ih 2 0 0 (x1 : Int32) ((x2 + (1 : Int32)) : Int32) (wX12_turns b0 (x2 : Int32) (x1 : Int32) (6 : Int32) ((ea_i h (b0 + 56) (Int32.toNatClampNeg x2)) : Int32) h) _ _ E hs14).2.1 rfl)
noncomputable def qX12_begins (b0 : Nat) (x1 : Int32) (h : ea_H) : Option (Unit × ea_H) := gX12_begins b0 1000000000 0 0 0 x1 0 h
def okX12_begins (b0 : Nat) (x1 : Int32) (h : ea_H) : Prop := ∃ x, qX12_begins b0 x1 h = some x
noncomputable def wX12_begins (b0 : Nat) (x1 : Int32) (h : ea_H) : ea_H := ((qX12_begins b0 x1 h).getD ((), h)).2
theorem sX12_begins {d : Nat} {b0 : Nat} {x1 : Int32} {h : ea_H} (hd : 2 ≤ d) (hs : ShM b0 h) (K : okX12_begins b0 x1 h) : ea_Met mX12_begins d [vR (some (b0 + 0)), vI x1] h none (wX12_begins b0 x1 h) := by
  obtain ⟨⟨x, y⟩, K⟩ := K
  unfold wX12_begins
  rw [K]
  unfold qX12_begins at K
  exact ea_enter rfl (Nat.le_of_ble_eq_true rfl) ((tX12_begins hd 1000000000 0 0 0 x1 0 h x y K hs).1 rfl)
theorem zX12_begins {b0 : Nat} : ∀ (f lbl : Nat) (sx0 : Int32) (sx1 : Int32) (x1 : Int32) (x2 : Int32) (h : ea_H) (r : Unit) (h' : ea_H), gX12_begins b0 f lbl sx0 sx1 x1 x2 h = some (r, h') → ShM b0 h → ShM b0 h' := by
  intro f
  induction f with
  | zero => intro lbl sx0 sx1 x1 x2 h r h' E; cases E
  | succ f ih =>
    intro lbl sx0 sx1 x1 x2 h r h' E hs
    unfold gX12_begins at E
    by_cases el0 : lbl = 0
    · have E := (if_pos el0).symm.trans E
      exact ih 2 0 0 (x1 : Int32) (0 : Int32) h _ _ E hs
    have E := (if_neg el0).symm.trans E
    by_cases el1 : lbl = 2
    · have E := (if_pos el1).symm.trans E
      by_cases c11 : (ea_i h (b0 + 0) 63) ≤ x2
      · have E := (if_pos c11).symm.trans E
        exact ea_shO E hs
      have E := (if_neg c11).symm.trans E
      obtain ⟨z1, E⟩ := gd_some E
      by_cases c10 : (ea_i h (b0 + 55) (Int32.toNatClampNeg x2)) = (3 : Int32)
      · have E := (if_pos c10).symm.trans E
        obtain ⟨z2, E⟩ := gd_some E
        obtain ⟨z3, E⟩ := gd_some E
        obtain ⟨z5, E⟩ := gd_some E
        obtain ⟨z6, E⟩ := gd_some E
        by_cases c9 : (ea_i (ea_wi h (b0 + 51) (Int32.toNatClampNeg x2) ((ea_i h (b0 + 51) (Int32.toNatClampNeg x2)) + (1 : Int32))) (b0 + 47) (Int32.toNatClampNeg x2)) = ((-1) : Int32)
        · have E := (if_pos c9).symm.trans E
          exact ih 64 (3 : Int32) ((ea_i (ea_wi h (b0 + 51) (Int32.toNatClampNeg x2) ((ea_i h (b0 + 51) (Int32.toNatClampNeg x2)) + (1 : Int32))) (b0 + 51) (Int32.toNatClampNeg x2)) : Int32) (x1 : Int32) (x2 : Int32) (ea_wi h (b0 + 51) (Int32.toNatClampNeg x2) ((ea_i h (b0 + 51) (Int32.toNatClampNeg x2)) + (1 : Int32))) _ _ E (ShM_wi hs)
        have E := (if_neg c9).symm.trans E
        obtain ⟨z7, E⟩ := gd_some E
        obtain ⟨z8, E⟩ := gd_some E
        exact ih 64 ((ea_i (ea_wi h (b0 + 51) (Int32.toNatClampNeg x2) ((ea_i h (b0 + 51) (Int32.toNatClampNeg x2)) + (1 : Int32))) (b0 + 28) (Int32.toNatClampNeg (ea_i (ea_wi h (b0 + 51) (Int32.toNatClampNeg x2) ((ea_i h (b0 + 51) (Int32.toNatClampNeg x2)) + (1 : Int32))) (b0 + 47) (Int32.toNatClampNeg x2)))) : Int32) ((ea_i (ea_wi h (b0 + 51) (Int32.toNatClampNeg x2) ((ea_i h (b0 + 51) (Int32.toNatClampNeg x2)) + (1 : Int32))) (b0 + 51) (Int32.toNatClampNeg x2)) : Int32) (x1 : Int32) (x2 : Int32) (ea_wi h (b0 + 51) (Int32.toNatClampNeg x2) ((ea_i h (b0 + 51) (Int32.toNatClampNeg x2)) + (1 : Int32))) _ _ E (ShM_wi hs)
      have E := (if_neg c10).symm.trans E
      exact ih 2 0 0 (x1 : Int32) ((x2 + (1 : Int32)) : Int32) h _ _ E hs
    have E := (if_neg el1).symm.trans E
    by_cases el2 : lbl = 64
    · have E := (if_pos el2).symm.trans E
      by_cases c15 : sx1 < sx0
      · have E := (if_pos c15).symm.trans E
        exact ih 2 0 0 (x1 : Int32) ((x2 + (1 : Int32)) : Int32) h _ _ E hs
      have E := (if_neg c15).symm.trans E
      obtain ⟨z12, E⟩ := gd_some E
      obtain ⟨z13, E⟩ := gd_some E
      exact ih 2 0 0 (x1 : Int32) ((x2 + (1 : Int32)) : Int32) (wX12_turns b0 (x2 : Int32) (x1 : Int32) (6 : Int32) ((ea_i h (b0 + 56) (Int32.toNatClampNeg x2)) : Int32) h) _ _ E (shX12_turns hs)
    have E := (if_neg el2).symm.trans E
    cases E
theorem shX12_begins {b0 : Nat} {x1 : Int32} {h : ea_H} (hs : ShM b0 h) : ShM b0 (wX12_begins b0 x1 h) := by
  unfold wX12_begins
  cases K : qX12_begins b0 x1 h with
  | none => exact hs
  | some x => obtain ⟨x, y⟩ := x; unfold qX12_begins at K; exact zX12_begins _ _ _ _ _ _ _ _ _ K hs
noncomputable def gX12_look (b0 : Nat) : Nat → Nat → Int32 → Int32 → Int32 → ea_H → Option (Int32 × ea_H)
  | 0, _, _, _, _, _ => none
  | f + 1, lbl, x1, x2, x3, h =>
    if lbl = 0 then (if Int32.toInt x1 = 0 then (some ((ea_i h (b0 + 0) 0), h)) else (if Int32.toInt x1 = 1 then (some ((ea_i h (b0 + 0) 1), h)) else (if Int32.toInt x1 = 2 then (some ((ea_i h (b0 + 0) 2), h)) else (if Int32.toInt x1 = 3 then (some ((ea_i h (b0 + 0) 63), h)) else (if Int32.toInt x1 = 4 then (some ((ea_i h (b0 + 0) 92), h)) else (if Int32.toInt x1 = 5 then (some ((ea_i h (b0 + 0) 25), h)) else (if (vX12_isIn (x1 : Int32) (10 : Int32) (16 : Int32) h) = (0 : Int32) then (some (((-1) : Int32), h)) else (gX12_look b0 f 85 (x1 : Int32) (0 : Int32) (0 : Int32) h)))))))) else
    if lbl = 85 then (if (ea_i h (b0 + 0) 63) ≤ x3 then (some (x2, h)) else (gd (vp_in x3 120) (if (ea_i h (b0 + 55) (Int32.toNatClampNeg x3)) = (x1 - (10 : Int32)) then (gX12_look b0 f 85 (x1 : Int32) ((x2 + (1 : Int32)) : Int32) ((x3 + (1 : Int32)) : Int32) h) else (gX12_look b0 f 85 (x1 : Int32) ((x2 + (0 : Int32)) : Int32) ((x3 + (1 : Int32)) : Int32) h)))) else none
theorem tX12_look {d : Nat} {b0 : Nat} {h0 : ea_H} (hd : 2 ≤ d) : ∀ (f lbl : Nat) (x1 : Int32) (x2 : Int32) (x3 : Int32) (h : ea_H) (r : Int32) (h' : ea_H), gX12_look b0 f lbl x1 x2 x3 h = some (r, h') → ShM b0 h → (lbl = 0 → ea_W mX12_look d h0 (some (vI r)) h' 0 [(0, vR (some (b0 + 0))), (1, vI x1)] [] h) ∧ (lbl = 85 → ea_W mX12_look d h0 (some (vI r)) h' 85 [(0, vR (some (b0 + 0))), (1, vI x1), (2, vI x2), (3, vI x3)] [] h) := by
  intro f
  induction f with
  | zero => intro lbl x1 x2 x3 h r h' E; cases E
  | succ f ih =>
    intro lbl x1 x2 x3 h r h' E hs
    unfold gX12_look at E
    refine ⟨?_, ?_⟩
    · intro el
      subst el
      have E := (if_pos rfl).symm.trans E
      refine ea_iconst (pc := 0) dX12_look_0 (v := 0) rfl ?_
      refine ea_istore_n (pc := 1) (lv' := [(0, vR (some (b0 + 0))), (1, vI x1), (2, vI 0)]) dX12_look_1 rfl (Nat.le_of_ble_eq_true rfl) [1, 2, 0] rfl ?_
      refine ea_iload_n (pc := 2) dX12_look_2 rfl 1 rfl ?_
      by_cases qc3_0 : Int32.toInt x1 = 0
      · have E := (if_pos qc3_0).symm.trans E
        refine ea_tswIn (pc := 3) (tgt := 40) dX12_look_3 (by rw [qc3_0]; decide) (by rw [qc3_0]; decide) (by rw [qc3_0]; rfl) rfl ?_
        refine ea_aload_n (pc := 40) dX12_look_40 rfl 0 rfl ?_
        refine ea_getI (pc := 41) dX12_look_41 ec_12 (k := 0) (Nat.le_of_ble_eq_true rfl) rfl (Or.inl ew_1345) (hs.1 0 (by decide)).1 (hs.1 0 (by decide)).2.1 ?_
        exact ea_iretO (pc := 44) dX12_look_44 rfl rfl E
      have E := (if_neg qc3_0).symm.trans E
      by_cases qc3_1 : Int32.toInt x1 = 1
      · have E := (if_pos qc3_1).symm.trans E
        refine ea_tswIn (pc := 3) (tgt := 45) dX12_look_3 (by rw [qc3_1]; decide) (by rw [qc3_1]; decide) (by rw [qc3_1]; rfl) rfl ?_
        refine ea_aload_n (pc := 45) dX12_look_45 rfl 0 rfl ?_
        refine ea_getI (pc := 46) dX12_look_46 ec_12 (k := 1) (Nat.le_of_ble_eq_true rfl) rfl (Or.inl ew_1346) (hs.1 0 (by decide)).1 (hs.1 0 (by decide)).2.1 ?_
        exact ea_iretO (pc := 49) dX12_look_49 rfl rfl E
      have E := (if_neg qc3_1).symm.trans E
      by_cases qc3_2 : Int32.toInt x1 = 2
      · have E := (if_pos qc3_2).symm.trans E
        refine ea_tswIn (pc := 3) (tgt := 50) dX12_look_3 (by rw [qc3_2]; decide) (by rw [qc3_2]; decide) (by rw [qc3_2]; rfl) rfl ?_
        refine ea_aload_n (pc := 50) dX12_look_50 rfl 0 rfl ?_
        refine ea_getI (pc := 51) dX12_look_51 ec_12 (k := 2) (Nat.le_of_ble_eq_true rfl) rfl (Or.inl ew_1347) (hs.1 0 (by decide)).1 (hs.1 0 (by decide)).2.1 ?_
        exact ea_iretO (pc := 54) dX12_look_54 rfl rfl E
      have E := (if_neg qc3_2).symm.trans E
      by_cases qc3_3 : Int32.toInt x1 = 3
      · have E := (if_pos qc3_3).symm.trans E
        refine ea_tswIn (pc := 3) (tgt := 55) dX12_look_3 (by rw [qc3_3]; decide) (by rw [qc3_3]; decide) (by rw [qc3_3]; rfl) rfl ?_
        refine ea_aload_n (pc := 55) dX12_look_55 rfl 0 rfl ?_
        refine ea_getI (pc := 56) dX12_look_56 ec_12 (k := 63) (Nat.le_of_ble_eq_true rfl) rfl (Or.inl ew_1408) (hs.1 0 (by decide)).1 (hs.1 0 (by decide)).2.1 ?_
        exact ea_iretO (pc := 59) dX12_look_59 rfl rfl E
      have E := (if_neg qc3_3).symm.trans E
      by_cases qc3_4 : Int32.toInt x1 = 4
      · have E := (if_pos qc3_4).symm.trans E
        refine ea_tswIn (pc := 3) (tgt := 60) dX12_look_3 (by rw [qc3_4]; decide) (by rw [qc3_4]; decide) (by rw [qc3_4]; rfl) rfl ?_
        refine ea_aload_n (pc := 60) dX12_look_60 rfl 0 rfl ?_
        refine ea_getI (pc := 61) dX12_look_61 ec_12 (k := 92) (Nat.le_of_ble_eq_true rfl) rfl (Or.inl ew_1437) (hs.1 0 (by decide)).1 (hs.1 0 (by decide)).2.1 ?_
        exact ea_iretO (pc := 64) dX12_look_64 rfl rfl E
      have E := (if_neg qc3_4).symm.trans E
      by_cases qc3_5 : Int32.toInt x1 = 5
      · have E := (if_pos qc3_5).symm.trans E
        refine ea_tswIn (pc := 3) (tgt := 65) dX12_look_3 (by rw [qc3_5]; decide) (by rw [qc3_5]; decide) (by rw [qc3_5]; rfl) rfl ?_
        refine ea_aload_n (pc := 65) dX12_look_65 rfl 0 rfl ?_
        refine ea_getI (pc := 66) dX12_look_66 ec_12 (k := 25) (Nat.le_of_ble_eq_true rfl) rfl (Or.inl ew_1370) (hs.1 0 (by decide)).1 (hs.1 0 (by decide)).2.1 ?_
        exact ea_iretO (pc := 69) dX12_look_69 rfl rfl E
      have E := (if_neg qc3_5).symm.trans E
      refine ea_tswOut (pc := 3) (tgt := 70) dX12_look_3 (ea_sw_0_5 qc3_0 qc3_1 qc3_2 qc3_3 qc3_4 qc3_5) rfl ?_
      refine ea_iload_n (pc := 70) dX12_look_70 rfl 1 rfl ?_
      refine ea_bipush (pc := 71) dX12_look_71 (v := 10) rfl ?_
      refine ea_bipush (pc := 73) dX12_look_73 (v := 16) rfl ?_
      refine ea_callS (pc := 75) (d' := d - 1) (As := [vI x1, vI 10, vI 16]) (st := []) dX12_look_75 kX12_isIn (sX12_isIn (d := d - 1) (by omega)) (by omega) rfl (Nat.le_of_ble_eq_true rfl) ew_1712 ew_1713 ?_
      refine ea_if_ne (pc := 78) (tgt := 83) dX12_look_78 rfl (fun c2 => ?_) (fun c2 => ?_)
      · have E := (if_neg c2).symm.trans E
        refine ea_iconst (pc := 83) dX12_look_83 (v := 0) rfl ?_
        refine ea_istore_n (pc := 84) (lv' := [(0, vR (some (b0 + 0))), (1, vI x1), (2, vI 0), (3, vI 0)]) dX12_look_84 rfl (Nat.le_of_ble_eq_true rfl) [1, 2, 3, 0] rfl ?_
        exact ((ih 85 (x1 : Int32) (0 : Int32) (0 : Int32) h _ _ E hs).2 rfl)
      · have E := (if_pos c2).symm.trans E
        refine ea_iconst (pc := 81) dX12_look_81 (v := (-1)) rfl ?_
        exact ea_iretO (pc := 82) dX12_look_82 rfl rfl E
    intro el
    subst el
    have E := (if_neg (by decide)).symm.trans E
    have E := (if_pos rfl).symm.trans E
    refine ea_iload_n (pc := 85) dX12_look_85 rfl 3 rfl ?_
    refine ea_aload_n (pc := 86) dX12_look_86 rfl 0 rfl ?_
    refine ea_getI (pc := 87) dX12_look_87 ec_12 (k := 63) (Nat.le_of_ble_eq_true rfl) rfl (Or.inl ew_1408) (hs.1 0 (by decide)).1 (hs.1 0 (by decide)).2.1 ?_
    refine ea_icmp_ge (pc := 90) (tgt := 120) dX12_look_90 rfl (fun c5 => ?_) (fun c5 => ?_)
    · have E := (if_pos c5).symm.trans E
      refine ea_iload_n (pc := 120) dX12_look_120 rfl 2 rfl ?_
      exact ea_iretO (pc := 121) dX12_look_121 rfl rfl E
    · have E := (if_neg c5).symm.trans E
      refine ea_iload_n (pc := 93) dX12_look_93 rfl 2 rfl ?_
      refine ea_aload_n (pc := 94) dX12_look_94 rfl 0 rfl ?_
      refine ea_getR (pc := 95) dX12_look_95 ec_12 (k := 81) (Nat.le_of_ble_eq_true rfl) rfl (Or.inl ew_1426) (hs.1 0 (by decide)).1 (hs.1 0 (by decide)).2.1 (hs.2 0 81 rfl) ?_
      refine ea_iload_n (pc := 98) dX12_look_98 rfl 3 rfl ?_
      obtain ⟨z3, E⟩ := gd_some E
      refine ea_iald (pc := 99) dX12_look_99 (hs.1 55 (by decide)).1 (hs.1 55 (by decide)).2.1 (ea_vpl (hs.1 55 (by decide)).2.2 z3) ?_
      refine ea_iload_n (pc := 100) dX12_look_100 rfl 1 rfl ?_
      refine ea_bipush (pc := 101) dX12_look_101 (v := 10) rfl ?_
      refine ea_isub (pc := 103) dX12_look_103 ?_
      refine ea_icmp_ne (pc := 104) (tgt := 111) dX12_look_104 rfl (fun c4 => ?_) (fun c4 => ?_)
      · have E := (if_neg c4).symm.trans E
        refine ea_iconst (pc := 111) dX12_look_111 (v := 0) rfl ?_
        refine ea_iadd (pc := 112) dX12_look_112 ?_
        refine ea_istore_n (pc := 113) (lv' := [(0, vR (some (b0 + 0))), (1, vI x1), (2, vI (x2 + (0 : Int32))), (3, vI x3)]) dX12_look_113 rfl (Nat.le_of_ble_eq_true rfl) [1, 2, 0, 3] rfl ?_
        refine ea_iinc (pc := 114) (v := 1) (lv' := [(0, vR (some (b0 + 0))), (1, vI x1), (2, vI (x2 + (0 : Int32))), (3, vI (x3 + (1 : Int32)))]) dX12_look_114 3 rfl rfl (Nat.le_of_ble_eq_true rfl) [1, 2, 3, 0] rfl ?_
        refine ea_goto (pc := 117) (tgt := 85) dX12_look_117 rfl ?_
        exact ((ih 85 (x1 : Int32) ((x2 + (0 : Int32)) : Int32) ((x3 + (1 : Int32)) : Int32) h _ _ E hs).2 rfl)
      · have E := (if_pos c4).symm.trans E
        refine ea_iconst (pc := 107) dX12_look_107 (v := 1) rfl ?_
        refine ea_goto (pc := 108) (tgt := 112) dX12_look_108 rfl ?_
        refine ea_iadd (pc := 112) dX12_look_112 ?_
        refine ea_istore_n (pc := 113) (lv' := [(0, vR (some (b0 + 0))), (1, vI x1), (2, vI (x2 + (1 : Int32))), (3, vI x3)]) dX12_look_113 rfl (Nat.le_of_ble_eq_true rfl) [1, 2, 0, 3] rfl ?_
        refine ea_iinc (pc := 114) (v := 1) (lv' := [(0, vR (some (b0 + 0))), (1, vI x1), (2, vI (x2 + (1 : Int32))), (3, vI (x3 + (1 : Int32)))]) dX12_look_114 3 rfl rfl (Nat.le_of_ble_eq_true rfl) [1, 2, 3, 0] rfl ?_
        refine ea_goto (pc := 117) (tgt := 85) dX12_look_117 rfl ?_
        exact ((ih 85 (x1 : Int32) ((x2 + (1 : Int32)) : Int32) ((x3 + (1 : Int32)) : Int32) h _ _ E hs).2 rfl)
noncomputable def qX12_look (b0 : Nat) (x1 : Int32) (h : ea_H) : Option (Int32 × ea_H) := gX12_look b0 1000000000 0 x1 0 0 h
def okX12_look (b0 : Nat) (x1 : Int32) (h : ea_H) : Prop := ∃ x, qX12_look b0 x1 h = some x
noncomputable def vX12_look (b0 : Nat) (x1 : Int32) (h : ea_H) : Int32 := ((qX12_look b0 x1 h).getD (0, h)).1
noncomputable def wX12_look (b0 : Nat) (x1 : Int32) (h : ea_H) : ea_H := ((qX12_look b0 x1 h).getD (0, h)).2
theorem sX12_look {d : Nat} {b0 : Nat} {x1 : Int32} {h : ea_H} (hd : 2 ≤ d) (hs : ShM b0 h) (K : okX12_look b0 x1 h) : ea_Met mX12_look d [vR (some (b0 + 0)), vI x1] h (some (vI (vX12_look b0 x1 h))) (wX12_look b0 x1 h) := by
  obtain ⟨⟨x, y⟩, K⟩ := K
  unfold wX12_look vX12_look
  rw [K]
  unfold qX12_look at K
  exact ea_enter rfl (Nat.le_of_ble_eq_true rfl) ((tX12_look hd 1000000000 0 x1 0 0 h x y K hs).1 rfl)
theorem zX12_look {b0 : Nat} : ∀ (f lbl : Nat) (x1 : Int32) (x2 : Int32) (x3 : Int32) (h : ea_H) (r : Int32) (h' : ea_H), gX12_look b0 f lbl x1 x2 x3 h = some (r, h') → ShM b0 h → ShM b0 h' := by
  intro f
  induction f with
  | zero => intro lbl x1 x2 x3 h r h' E; cases E
  | succ f ih =>
    intro lbl x1 x2 x3 h r h' E hs
    unfold gX12_look at E
    by_cases el0 : lbl = 0
    · have E := (if_pos el0).symm.trans E
      by_cases qc3_0 : Int32.toInt x1 = 0
      · have E := (if_pos qc3_0).symm.trans E
        exact ea_shO E hs
      have E := (if_neg qc3_0).symm.trans E
      by_cases qc3_1 : Int32.toInt x1 = 1
      · have E := (if_pos qc3_1).symm.trans E
        exact ea_shO E hs
      have E := (if_neg qc3_1).symm.trans E
      by_cases qc3_2 : Int32.toInt x1 = 2
      · have E := (if_pos qc3_2).symm.trans E
        exact ea_shO E hs
      have E := (if_neg qc3_2).symm.trans E
      by_cases qc3_3 : Int32.toInt x1 = 3
      · have E := (if_pos qc3_3).symm.trans E
        exact ea_shO E hs
      have E := (if_neg qc3_3).symm.trans E
      by_cases qc3_4 : Int32.toInt x1 = 4
      · have E := (if_pos qc3_4).symm.trans E
        exact ea_shO E hs
      have E := (if_neg qc3_4).symm.trans E
      by_cases qc3_5 : Int32.toInt x1 = 5
      · have E := (if_pos qc3_5).symm.trans E
        exact ea_shO E hs
      have E := (if_neg qc3_5).symm.trans E
      by_cases c2 : (vX12_isIn (x1 : Int32) (10 : Int32) (16 : Int32) h) = (0 : Int32)
      · have E := (if_pos c2).symm.trans E
        exact ea_shO E hs
      have E := (if_neg c2).symm.trans E
      exact ih 85 (x1 : Int32) (0 : Int32) (0 : Int32) h _ _ E hs
    have E := (if_neg el0).symm.trans E
    by_cases el1 : lbl = 85
    · have E := (if_pos el1).symm.trans E
      by_cases c5 : (ea_i h (b0 + 0) 63) ≤ x3
      · have E := (if_pos c5).symm.trans E
        exact ea_shO E hs
      have E := (if_neg c5).symm.trans E
      obtain ⟨z3, E⟩ := gd_some E
      by_cases c4 : (ea_i h (b0 + 55) (Int32.toNatClampNeg x3)) = (x1 - (10 : Int32))
      · have E := (if_pos c4).symm.trans E
        exact ih 85 (x1 : Int32) ((x2 + (1 : Int32)) : Int32) ((x3 + (1 : Int32)) : Int32) h _ _ E hs
      have E := (if_neg c4).symm.trans E
      exact ih 85 (x1 : Int32) ((x2 + (0 : Int32)) : Int32) ((x3 + (1 : Int32)) : Int32) h _ _ E hs
    have E := (if_neg el1).symm.trans E
    cases E
theorem shX12_look {b0 : Nat} {x1 : Int32} {h : ea_H} (hs : ShM b0 h) : ShM b0 (wX12_look b0 x1 h) := by
  unfold wX12_look
  cases K : qX12_look b0 x1 h with
  | none => exact hs
  | some x => obtain ⟨x, y⟩ := x; unfold qX12_look at K; exact zX12_look _ _ _ _ _ _ _ _ K hs
noncomputable def gX12_gone (b0 : Nat) : Nat → Nat → Int32 → Int32 → ea_H → Option (Int32 × ea_H)
  | 0, _, _, _, _ => none
  | f + 1, lbl, x1, x2, h =>
    if lbl = 0 then (gX12_gone b0 f 2 (x1 : Int32) ((-1) : Int32) h) else
    if lbl = 2 then (gd (vp_in (x1 / (7 : Int32)) 10) (if (ea_i h (b0 + 2) (Int32.toNatClampNeg (x1 / (7 : Int32)))) ≤ (x2 + (2 : Int32)) then (some (x2, h)) else (gd ((okX12_goesAt b0 (x1 : Int32) ((x2 + (1 : Int32)) : Int32) h)) (if (ea_i h (b0 + 0) 0) < (vX12_goesAt b0 (x1 : Int32) ((x2 + (1 : Int32)) : Int32) h) then (some (x2, h)) else (gX12_gone b0 f 2 (x1 : Int32) ((x2 + (1 : Int32)) : Int32) h))))) else none
theorem tX12_gone {d : Nat} {b0 : Nat} {h0 : ea_H} (hd : 2 ≤ d) : ∀ (f lbl : Nat) (x1 : Int32) (x2 : Int32) (h : ea_H) (r : Int32) (h' : ea_H), gX12_gone b0 f lbl x1 x2 h = some (r, h') → ShM b0 h → (lbl = 0 → ea_W mX12_gone d h0 (some (vI r)) h' 0 [(0, vR (some (b0 + 0))), (1, vI x1)] [] h) ∧ (lbl = 2 → ea_W mX12_gone d h0 (some (vI r)) h' 2 [(0, vR (some (b0 + 0))), (1, vI x1), (2, vI x2)] [] h) := by
  intro f
  induction f with
  | zero => intro lbl x1 x2 h r h' E; cases E
  | succ f ih =>
    intro lbl x1 x2 h r h' E hs
    unfold gX12_gone at E
    refine ⟨?_, ?_⟩
    · intro el
      subst el
      have E := (if_pos rfl).symm.trans E
      refine ea_iconst (pc := 0) dX12_gone_0 (v := (-1)) rfl ?_
      refine ea_istore_n (pc := 1) (lv' := [(0, vR (some (b0 + 0))), (1, vI x1), (2, vI (-1))]) dX12_gone_1 rfl (Nat.le_of_ble_eq_true rfl) [1, 2, 0] rfl ?_
      exact ((ih 2 (x1 : Int32) ((-1) : Int32) h _ _ E hs).2 rfl)
    intro el
    subst el
    have E := (if_neg (by decide)).symm.trans E
    have E := (if_pos rfl).symm.trans E
    refine ea_iload_n (pc := 2) dX12_gone_2 rfl 2 rfl ?_
    refine ea_iconst (pc := 3) dX12_gone_3 (v := 2) rfl ?_
    refine ea_iadd (pc := 4) dX12_gone_4 ?_
    refine ea_aload_n (pc := 5) dX12_gone_5 rfl 0 rfl ?_
    refine ea_getR (pc := 6) dX12_gone_6 ec_12 (k := 4) (Nat.le_of_ble_eq_true rfl) rfl (Or.inl ew_1349) (hs.1 0 (by decide)).1 (hs.1 0 (by decide)).2.1 (hs.2 0 4 rfl) ?_
    refine ea_iload_n (pc := 9) dX12_gone_9 rfl 1 rfl ?_
    refine ea_bipush (pc := 10) dX12_gone_10 (v := 7) rfl ?_
    refine ea_idiv (pc := 12) dX12_gone_12 (by decide) ?_
    obtain ⟨z1, E⟩ := gd_some E
    refine ea_iald (pc := 13) dX12_gone_13 (hs.1 2 (by decide)).1 (hs.1 2 (by decide)).2.1 (ea_vpl (hs.1 2 (by decide)).2.2 z1) ?_
    refine ea_icmp_ge (pc := 14) (tgt := 38) dX12_gone_14 rfl (fun c4 => ?_) (fun c4 => ?_)
    · have E := (if_pos c4).symm.trans E
      refine ea_iload_n (pc := 38) dX12_gone_38 rfl 2 rfl ?_
      exact ea_iretO (pc := 39) dX12_gone_39 rfl rfl E
    · have E := (if_neg c4).symm.trans E
      refine ea_aload_n (pc := 17) dX12_gone_17 rfl 0 rfl ?_
      refine ea_iload_n (pc := 18) dX12_gone_18 rfl 1 rfl ?_
      refine ea_iload_n (pc := 19) dX12_gone_19 rfl 2 rfl ?_
      refine ea_iconst (pc := 20) dX12_gone_20 (v := 1) rfl ?_
      refine ea_iadd (pc := 21) dX12_gone_21 ?_
      obtain ⟨z2, E⟩ := gd_some E
      refine ea_callV (pc := 22) (d' := d - 1) (As := [vI x1, vI (x2 + (1 : Int32))]) (st := []) dX12_gone_22 kX12_goesAt (sX12_goesAt (d := d - 1) (by omega) hs z2) (by omega) rfl (Nat.le_of_ble_eq_true rfl) ew_1786 ew_1788 ew_57 (ci := 12) rfl (by decide) (hs.1 0 (by decide)).1 (hs.1 0 (by decide)).2.1 ?_
      refine ea_aload_n (pc := 25) dX12_gone_25 rfl 0 rfl ?_
      refine ea_getI (pc := 26) dX12_gone_26 ec_12 (k := 0) (Nat.le_of_ble_eq_true rfl) rfl (Or.inl ew_1345) (hs.1 0 (by decide)).1 (hs.1 0 (by decide)).2.1 ?_
      refine ea_icmp_gt (pc := 29) (tgt := 38) dX12_gone_29 rfl (fun c3 => ?_) (fun c3 => ?_)
      · have E := (if_pos c3).symm.trans E
        refine ea_iload_n (pc := 38) dX12_gone_38 rfl 2 rfl ?_
        exact ea_iretO (pc := 39) dX12_gone_39 rfl rfl E
      · have E := (if_neg c3).symm.trans E
        refine ea_iinc (pc := 32) (v := 1) (lv' := [(0, vR (some (b0 + 0))), (1, vI x1), (2, vI (x2 + (1 : Int32)))]) dX12_gone_32 2 rfl rfl (Nat.le_of_ble_eq_true rfl) [1, 2, 0] rfl ?_
        refine ea_goto (pc := 35) (tgt := 2) dX12_gone_35 rfl ?_
        exact ((ih 2 (x1 : Int32) ((x2 + (1 : Int32)) : Int32) h _ _ E hs).2 rfl)
noncomputable def qX12_gone (b0 : Nat) (x1 : Int32) (h : ea_H) : Option (Int32 × ea_H) := gX12_gone b0 1000000000 0 x1 0 h
def okX12_gone (b0 : Nat) (x1 : Int32) (h : ea_H) : Prop := ∃ x, qX12_gone b0 x1 h = some x
noncomputable def vX12_gone (b0 : Nat) (x1 : Int32) (h : ea_H) : Int32 := ((qX12_gone b0 x1 h).getD (0, h)).1
noncomputable def wX12_gone (b0 : Nat) (x1 : Int32) (h : ea_H) : ea_H := ((qX12_gone b0 x1 h).getD (0, h)).2
theorem sX12_gone {d : Nat} {b0 : Nat} {x1 : Int32} {h : ea_H} (hd : 2 ≤ d) (hs : ShM b0 h) (K : okX12_gone b0 x1 h) : ea_Met mX12_gone d [vR (some (b0 + 0)), vI x1] h (some (vI (vX12_gone b0 x1 h))) (wX12_gone b0 x1 h) := by
  obtain ⟨⟨x, y⟩, K⟩ := K
  unfold wX12_gone vX12_gone
  rw [K]
  unfold qX12_gone at K
  exact ea_enter rfl (Nat.le_of_ble_eq_true rfl) ((tX12_gone hd 1000000000 0 x1 0 h x y K hs).1 rfl)
theorem zX12_gone {b0 : Nat} : ∀ (f lbl : Nat) (x1 : Int32) (x2 : Int32) (h : ea_H) (r : Int32) (h' : ea_H), gX12_gone b0 f lbl x1 x2 h = some (r, h') → ShM b0 h → ShM b0 h' := by
  intro f
  induction f with
  | zero => intro lbl x1 x2 h r h' E; cases E
  | succ f ih =>
    intro lbl x1 x2 h r h' E hs
    unfold gX12_gone at E
    by_cases el0 : lbl = 0
    · have E := (if_pos el0).symm.trans E
      exact ih 2 (x1 : Int32) ((-1) : Int32) h _ _ E hs
    have E := (if_neg el0).symm.trans E
    by_cases el1 : lbl = 2
    · have E := (if_pos el1).symm.trans E
      obtain ⟨z1, E⟩ := gd_some E
      by_cases c4 : (ea_i h (b0 + 2) (Int32.toNatClampNeg (x1 / (7 : Int32)))) ≤ (x2 + (2 : Int32))
      · have E := (if_pos c4).symm.trans E
        exact ea_shO E hs
      have E := (if_neg c4).symm.trans E
      obtain ⟨z2, E⟩ := gd_some E
      by_cases c3 : (ea_i h (b0 + 0) 0) < (vX12_goesAt b0 (x1 : Int32) ((x2 + (1 : Int32)) : Int32) h)
      · have E := (if_pos c3).symm.trans E
        exact ea_shO E hs
      have E := (if_neg c3).symm.trans E
      exact ih 2 (x1 : Int32) ((x2 + (1 : Int32)) : Int32) h _ _ E hs
    have E := (if_neg el1).symm.trans E
    cases E
theorem shX12_gone {b0 : Nat} {x1 : Int32} {h : ea_H} (hs : ShM b0 h) : ShM b0 (wX12_gone b0 x1 h) := by
  unfold wX12_gone
  cases K : qX12_gone b0 x1 h with
  | none => exact hs
  | some x => obtain ⟨x, y⟩ := x; unfold qX12_gone at K; exact zX12_gone _ _ _ _ _ _ _ K hs
noncomputable def gX12_account (b0 : Nat) : Nat → Nat → Int32 → Int32 → Int32 → Int32 → Int32 → Int32 → Int32 → Int32 → ea_H → Option (Int32 × ea_H)
  | 0, _, _, _, _, _, _, _, _, _, _ => none
  | f + 1, lbl, x1, x2, x3, x4, x5, x6, x7, x8, h =>
    if lbl = 0 then (if (vX12_isTown b0 (x1 : Int32) h) = (0 : Int32) then (some (((-1) : Int32), h)) else (if (vX12_isTown b0 (x2 : Int32) h) = (0 : Int32) then (some (((-1) : Int32), h)) else (if x1 = x2 then (some (((-1) : Int32), h)) else (gX12_account b0 f 38 (x1 : Int32) (x2 : Int32) (x3 : Int32) (0 : Int32) (0 : Int32) (0 : Int32) ((-1) : Int32) (0 : Int32) h)))) else
    if lbl = 38 then (if (ea_i h (b0 + 0) 63) ≤ x8 then (if x3 = (0 : Int32) then (some (x4, h)) else (if x3 = (1 : Int32) then (some (x5, h)) else (if x3 = (2 : Int32) then (some (x6, h)) else (some (x7, h))))) else (gd ((okX12_isOf b0 (x8 : Int32) (x1 : Int32) (x2 : Int32) h)) (if (vX12_isOf b0 (x8 : Int32) (x1 : Int32) (x2 : Int32) h) = (0 : Int32) then (gX12_account b0 f 38 (x1 : Int32) (x2 : Int32) (x3 : Int32) (x4 : Int32) (x5 : Int32) (x6 : Int32) (x7 : Int32) ((x8 + (1 : Int32)) : Int32) h) else (gd ((okX12_owed b0 (x8 : Int32) h)) (gd (vp_in x8 120) (if (ea_i h (b0 + 55) (Int32.toNatClampNeg x8)) = (2 : Int32) then (gd ((okX12_owed b0 (x8 : Int32) h)) (gX12_account b0 f 38 (x1 : Int32) (x2 : Int32) (x3 : Int32) ((x4 + (vX12_owed b0 (x8 : Int32) h)) : Int32) ((x5 + (vX12_owed b0 (x8 : Int32) h)) : Int32) (x6 : Int32) (x7 : Int32) ((x8 + (1 : Int32)) : Int32) h)) else (gd ((okX12_owed b0 (x8 : Int32) h)) (if (vX12_owed b0 (x8 : Int32) h) ≤ (0 : Int32) then (gX12_account b0 f 38 (x1 : Int32) (x2 : Int32) (x3 : Int32) ((x4 + (vX12_owed b0 (x8 : Int32) h)) : Int32) (x5 : Int32) (x6 : Int32) (x7 : Int32) ((x8 + (1 : Int32)) : Int32) h) else (if x6 = (x3 - (10 : Int32)) then (gX12_account b0 f 38 (x1 : Int32) (x2 : Int32) (x3 : Int32) ((x4 + (vX12_owed b0 (x8 : Int32) h)) : Int32) (x5 : Int32) ((x6 + (1 : Int32)) : Int32) (x8 : Int32) ((x8 + (1 : Int32)) : Int32) h) else (gX12_account b0 f 38 (x1 : Int32) (x2 : Int32) (x3 : Int32) ((x4 + (vX12_owed b0 (x8 : Int32) h)) : Int32) (x5 : Int32) ((x6 + (1 : Int32)) : Int32) (x7 : Int32) ((x8 + (1 : Int32)) : Int32) h)))))))))) else none
theorem tX12_account {d : Nat} {b0 : Nat} {h0 : ea_H} (hd : 3 ≤ d) : ∀ (f lbl : Nat) (x1 : Int32) (x2 : Int32) (x3 : Int32) (x4 : Int32) (x5 : Int32) (x6 : Int32) (x7 : Int32) (x8 : Int32) (h : ea_H) (r : Int32) (h' : ea_H), gX12_account b0 f lbl x1 x2 x3 x4 x5 x6 x7 x8 h = some (r, h') → ShM b0 h → (lbl = 0 → ea_W mX12_account d h0 (some (vI r)) h' 0 [(0, vR (some (b0 + 0))), (1, vI x1), (2, vI x2), (3, vI x3)] [] h) ∧ (lbl = 38 → ea_W mX12_account d h0 (some (vI r)) h' 38 [(0, vR (some (b0 + 0))), (1, vI x1), (2, vI x2), (3, vI x3), (4, vI x4), (5, vI x5), (6, vI x6), (7, vI x7), (8, vI x8)] [] h) := by
  intro f
  induction f with
  | zero => intro lbl x1 x2 x3 x4 x5 x6 x7 x8 h r h' E; cases E
  | succ f ih =>
    intro lbl x1 x2 x3 x4 x5 x6 x7 x8 h r h' E hs
    unfold gX12_account at E
    refine ⟨?_, ?_⟩
    · intro el
      subst el
      have E := (if_pos rfl).symm.trans E
      refine ea_aload_n (pc := 0) dX12_account_0 rfl 0 rfl ?_
      refine ea_iload_n (pc := 1) dX12_account_1 rfl 1 rfl ?_
      refine ea_callV (pc := 2) (d' := d - 1) (As := [vI x1]) (st := []) dX12_account_2 kX12_isTown (sX12_isTown (d := d - 1) (by omega) hs) (by omega) rfl (Nat.le_of_ble_eq_true rfl) ew_1708 ew_1710 ew_47 (ci := 12) rfl (by decide) (hs.1 0 (by decide)).1 (hs.1 0 (by decide)).2.1 ?_
      refine ea_if_eq (pc := 5) (tgt := 21) dX12_account_5 rfl (fun c5 => ?_) (fun c5 => ?_)
      · have E := (if_pos c5).symm.trans E
        refine ea_iconst (pc := 21) dX12_account_21 (v := (-1)) rfl ?_
        exact ea_iretO (pc := 22) dX12_account_22 rfl rfl E
      · have E := (if_neg c5).symm.trans E
        refine ea_aload_n (pc := 8) dX12_account_8 rfl 0 rfl ?_
        refine ea_iload_n (pc := 9) dX12_account_9 rfl 2 rfl ?_
        refine ea_callV (pc := 10) (d' := d - 1) (As := [vI x2]) (st := []) dX12_account_10 kX12_isTown (sX12_isTown (d := d - 1) (by omega) hs) (by omega) rfl (Nat.le_of_ble_eq_true rfl) ew_1708 ew_1710 ew_47 (ci := 12) rfl (by decide) (hs.1 0 (by decide)).1 (hs.1 0 (by decide)).2.1 ?_
        refine ea_if_eq (pc := 13) (tgt := 21) dX12_account_13 rfl (fun c4 => ?_) (fun c4 => ?_)
        · have E := (if_pos c4).symm.trans E
          refine ea_iconst (pc := 21) dX12_account_21 (v := (-1)) rfl ?_
          exact ea_iretO (pc := 22) dX12_account_22 rfl rfl E
        · have E := (if_neg c4).symm.trans E
          refine ea_iload_n (pc := 16) dX12_account_16 rfl 1 rfl ?_
          refine ea_iload_n (pc := 17) dX12_account_17 rfl 2 rfl ?_
          refine ea_icmp_ne (pc := 18) (tgt := 23) dX12_account_18 rfl (fun c3 => ?_) (fun c3 => ?_)
          · have E := (if_neg c3).symm.trans E
            refine ea_iconst (pc := 23) dX12_account_23 (v := 0) rfl ?_
            refine ea_istore (pc := 24) (lv' := [(0, vR (some (b0 + 0))), (1, vI x1), (2, vI x2), (3, vI x3), (4, vI 0)]) dX12_account_24 (Nat.le_of_ble_eq_true rfl) [1, 2, 3, 4, 0] rfl ?_
            refine ea_iconst (pc := 26) dX12_account_26 (v := 0) rfl ?_
            refine ea_istore (pc := 27) (lv' := [(0, vR (some (b0 + 0))), (1, vI x1), (2, vI x2), (3, vI x3), (4, vI 0), (5, vI 0)]) dX12_account_27 (Nat.le_of_ble_eq_true rfl) [1, 2, 3, 4, 5, 0] rfl ?_
            refine ea_iconst (pc := 29) dX12_account_29 (v := 0) rfl ?_
            refine ea_istore (pc := 30) (lv' := [(0, vR (some (b0 + 0))), (1, vI x1), (2, vI x2), (3, vI x3), (4, vI 0), (5, vI 0), (6, vI 0)]) dX12_account_30 (Nat.le_of_ble_eq_true rfl) [1, 2, 3, 4, 5, 6, 0] rfl ?_
            refine ea_iconst (pc := 32) dX12_account_32 (v := (-1)) rfl ?_
            refine ea_istore (pc := 33) (lv' := [(0, vR (some (b0 + 0))), (1, vI x1), (2, vI x2), (3, vI x3), (4, vI 0), (5, vI 0), (6, vI 0), (7, vI (-1))]) dX12_account_33 (Nat.le_of_ble_eq_true rfl) [1, 2, 3, 4, 5, 6, 7, 0] rfl ?_
            refine ea_iconst (pc := 35) dX12_account_35 (v := 0) rfl ?_
            refine ea_istore (pc := 36) (lv' := [(0, vR (some (b0 + 0))), (1, vI x1), (2, vI x2), (3, vI x3), (4, vI 0), (5, vI 0), (6, vI 0), (7, vI (-1)), (8, vI 0)]) dX12_account_36 (Nat.le_of_ble_eq_true rfl) [1, 2, 3, 4, 5, 6, 7, 8, 0] rfl ?_
            exact ((ih 38 (x1 : Int32) (x2 : Int32) (x3 : Int32) (0 : Int32) (0 : Int32) (0 : Int32) ((-1) : Int32) (0 : Int32) h _ _ E hs).2 rfl)
          · have E := (if_pos c3).symm.trans E
            refine ea_iconst (pc := 21) dX12_account_21 (v := (-1)) rfl ?_
            exact ea_iretO (pc := 22) dX12_account_22 rfl rfl E
    intro el
    subst el
    have E := (if_neg (by decide)).symm.trans E
    have E := (if_pos rfl).symm.trans E
    refine ea_iload (pc := 38) dX12_account_38 8 rfl ?_
    refine ea_aload_n (pc := 40) dX12_account_40 rfl 0 rfl ?_
    refine ea_getI (pc := 41) dX12_account_41 ec_12 (k := 63) (Nat.le_of_ble_eq_true rfl) rfl (Or.inl ew_1408) (hs.1 0 (by decide)).1 (hs.1 0 (by decide)).2.1 ?_
    refine ea_icmp_ge (pc := 44) (tgt := 128) dX12_account_44 rfl (fun c18 => ?_) (fun c18 => ?_)
    · have E := (if_pos c18).symm.trans E
      refine ea_iload_n (pc := 128) dX12_account_128 rfl 3 rfl ?_
      refine ea_if_ne (pc := 129) (tgt := 137) dX12_account_129 rfl (fun c8 => ?_) (fun c8 => ?_)
      · have E := (if_neg c8).symm.trans E
        refine ea_iload_n (pc := 137) dX12_account_137 rfl 3 rfl ?_
        refine ea_iconst (pc := 138) dX12_account_138 (v := 1) rfl ?_
        refine ea_icmp_ne (pc := 139) (tgt := 147) dX12_account_139 rfl (fun c7 => ?_) (fun c7 => ?_)
        · have E := (if_neg c7).symm.trans E
          refine ea_iload_n (pc := 147) dX12_account_147 rfl 3 rfl ?_
          refine ea_iconst (pc := 148) dX12_account_148 (v := 2) rfl ?_
          refine ea_icmp_ne (pc := 149) (tgt := 157) dX12_account_149 rfl (fun c6 => ?_) (fun c6 => ?_)
          · have E := (if_neg c6).symm.trans E
            refine ea_iload (pc := 157) dX12_account_157 7 rfl ?_
            exact ea_iretO (pc := 159) dX12_account_159 rfl rfl E
          · have E := (if_pos c6).symm.trans E
            refine ea_iload (pc := 152) dX12_account_152 6 rfl ?_
            refine ea_goto (pc := 154) (tgt := 159) dX12_account_154 rfl ?_
            exact ea_iretO (pc := 159) dX12_account_159 rfl rfl E
        · have E := (if_pos c7).symm.trans E
          refine ea_iload (pc := 142) dX12_account_142 5 rfl ?_
          refine ea_goto (pc := 144) (tgt := 159) dX12_account_144 rfl ?_
          exact ea_iretO (pc := 159) dX12_account_159 rfl rfl E
      · have E := (if_pos c8).symm.trans E
        refine ea_iload (pc := 132) dX12_account_132 4 rfl ?_
        refine ea_goto (pc := 134) (tgt := 159) dX12_account_134 rfl ?_
        exact ea_iretO (pc := 159) dX12_account_159 rfl rfl E
    · have E := (if_neg c18).symm.trans E
      refine ea_aload_n (pc := 47) dX12_account_47 rfl 0 rfl ?_
      refine ea_iload (pc := 48) dX12_account_48 8 rfl ?_
      refine ea_iload_n (pc := 50) dX12_account_50 rfl 1 rfl ?_
      refine ea_iload_n (pc := 51) dX12_account_51 rfl 2 rfl ?_
      obtain ⟨z9, E⟩ := gd_some E
      refine ea_callV (pc := 52) (d' := d - 1) (As := [vI x8, vI x1, vI x2]) (st := []) dX12_account_52 kX12_isOf (sX12_isOf (d := d - 1) (by omega) hs z9) (by omega) rfl (Nat.le_of_ble_eq_true rfl) ew_2102 ew_2104 ew_100 (ci := 12) rfl (by decide) (hs.1 0 (by decide)).1 (hs.1 0 (by decide)).2.1 ?_
      refine ea_if_ne (pc := 55) (tgt := 61) dX12_account_55 rfl (fun c17 => ?_) (fun c17 => ?_)
      · have E := (if_neg c17).symm.trans E
        refine ea_iload (pc := 61) dX12_account_61 4 rfl ?_
        refine ea_aload_n (pc := 63) dX12_account_63 rfl 0 rfl ?_
        refine ea_iload (pc := 64) dX12_account_64 8 rfl ?_
        obtain ⟨z10, E⟩ := gd_some E
        refine ea_callV (pc := 66) (d' := d - 1) (As := [vI x8]) (st := [vI x4]) dX12_account_66 kX12_owed (sX12_owed (d := d - 1) (by omega) hs z10) (by omega) rfl (Nat.le_of_ble_eq_true rfl) ew_2027 ew_2029 ew_90 (ci := 12) rfl (by decide) (hs.1 0 (by decide)).1 (hs.1 0 (by decide)).2.1 ?_
        refine ea_iadd (pc := 69) dX12_account_69 ?_
        refine ea_istore (pc := 70) (lv' := [(0, vR (some (b0 + 0))), (1, vI x1), (2, vI x2), (3, vI x3), (4, vI (x4 + (vX12_owed b0 (x8 : Int32) h))), (5, vI x5), (6, vI x6), (7, vI x7), (8, vI x8)]) dX12_account_70 (Nat.le_of_ble_eq_true rfl) [1, 2, 3, 4, 0, 5, 6, 7, 8] rfl ?_
        refine ea_aload_n (pc := 72) dX12_account_72 rfl 0 rfl ?_
        refine ea_getR (pc := 73) dX12_account_73 ec_12 (k := 81) (Nat.le_of_ble_eq_true rfl) rfl (Or.inl ew_1426) (hs.1 0 (by decide)).1 (hs.1 0 (by decide)).2.1 (hs.2 0 81 rfl) ?_
        refine ea_iload (pc := 76) dX12_account_76 8 rfl ?_
        obtain ⟨z11, E⟩ := gd_some E
        refine ea_iald (pc := 78) dX12_account_78 (hs.1 55 (by decide)).1 (hs.1 55 (by decide)).2.1 (ea_vpl (hs.1 55 (by decide)).2.2 z11) ?_
        refine ea_iconst (pc := 79) dX12_account_79 (v := 2) rfl ?_
        refine ea_icmp_ne (pc := 80) (tgt := 97) dX12_account_80 rfl (fun c16 => ?_) (fun c16 => ?_)
        · have E := (if_neg c16).symm.trans E
          refine ea_aload_n (pc := 97) dX12_account_97 rfl 0 rfl ?_
          refine ea_iload (pc := 98) dX12_account_98 8 rfl ?_
          obtain ⟨z12, E⟩ := gd_some E
          refine ea_callV (pc := 100) (d' := d - 1) (As := [vI x8]) (st := []) dX12_account_100 kX12_owed (sX12_owed (d := d - 1) (by omega) hs z12) (by omega) rfl (Nat.le_of_ble_eq_true rfl) ew_2027 ew_2029 ew_90 (ci := 12) rfl (by decide) (hs.1 0 (by decide)).1 (hs.1 0 (by decide)).2.1 ?_
          refine ea_if_le (pc := 103) (tgt := 122) dX12_account_103 rfl (fun c14 => ?_) (fun c14 => ?_)
          · have E := (if_pos c14).symm.trans E
            refine ea_iinc (pc := 122) (v := 1) (lv' := [(0, vR (some (b0 + 0))), (1, vI x1), (2, vI x2), (3, vI x3), (4, vI (x4 + (vX12_owed b0 (x8 : Int32) h))), (5, vI x5), (6, vI x6), (7, vI x7), (8, vI (x8 + (1 : Int32)))]) dX12_account_122 8 rfl rfl (Nat.le_of_ble_eq_true rfl) [1, 2, 3, 4, 5, 6, 7, 8, 0] rfl ?_
            refine ea_goto (pc := 125) (tgt := 38) dX12_account_125 rfl ?_
            exact ((ih 38 (x1 : Int32) (x2 : Int32) (x3 : Int32) ((x4 + (vX12_owed b0 (x8 : Int32) h)) : Int32) (x5 : Int32) (x6 : Int32) (x7 : Int32) ((x8 + (1 : Int32)) : Int32) h _ _ E hs).2 rfl)
          · have E := (if_neg c14).symm.trans E
            refine ea_iload (pc := 106) dX12_account_106 6 rfl ?_
            refine ea_iload_n (pc := 108) dX12_account_108 rfl 3 rfl ?_
            refine ea_bipush (pc := 109) dX12_account_109 (v := 10) rfl ?_
            refine ea_isub (pc := 111) dX12_account_111 ?_
            refine ea_icmp_ne (pc := 112) (tgt := 119) dX12_account_112 rfl (fun c13 => ?_) (fun c13 => ?_)
            · have E := (if_neg c13).symm.trans E
              refine ea_iinc (pc := 119) (v := 1) (lv' := [(0, vR (some (b0 + 0))), (1, vI x1), (2, vI x2), (3, vI x3), (4, vI (x4 + (vX12_owed b0 (x8 : Int32) h))), (5, vI x5), (6, vI (x6 + (1 : Int32))), (7, vI x7), (8, vI x8)]) dX12_account_119 6 rfl rfl (Nat.le_of_ble_eq_true rfl) [1, 2, 3, 4, 5, 6, 0, 7, 8] rfl ?_
              refine ea_iinc (pc := 122) (v := 1) (lv' := [(0, vR (some (b0 + 0))), (1, vI x1), (2, vI x2), (3, vI x3), (4, vI (x4 + (vX12_owed b0 (x8 : Int32) h))), (5, vI x5), (6, vI (x6 + (1 : Int32))), (7, vI x7), (8, vI (x8 + (1 : Int32)))]) dX12_account_122 8 rfl rfl (Nat.le_of_ble_eq_true rfl) [1, 2, 3, 4, 5, 6, 7, 8, 0] rfl ?_
              refine ea_goto (pc := 125) (tgt := 38) dX12_account_125 rfl ?_
              exact ((ih 38 (x1 : Int32) (x2 : Int32) (x3 : Int32) ((x4 + (vX12_owed b0 (x8 : Int32) h)) : Int32) (x5 : Int32) ((x6 + (1 : Int32)) : Int32) (x7 : Int32) ((x8 + (1 : Int32)) : Int32) h _ _ E hs).2 rfl)
            · have E := (if_pos c13).symm.trans E
              refine ea_iload (pc := 115) dX12_account_115 8 rfl ?_
              refine ea_istore (pc := 117) (lv' := [(0, vR (some (b0 + 0))), (1, vI x1), (2, vI x2), (3, vI x3), (4, vI (x4 + (vX12_owed b0 (x8 : Int32) h))), (5, vI x5), (6, vI x6), (7, vI x8), (8, vI x8)]) dX12_account_117 (Nat.le_of_ble_eq_true rfl) [1, 2, 3, 4, 5, 6, 7, 0, 8] rfl ?_
              refine ea_iinc (pc := 119) (v := 1) (lv' := [(0, vR (some (b0 + 0))), (1, vI x1), (2, vI x2), (3, vI x3), (4, vI (x4 + (vX12_owed b0 (x8 : Int32) h))), (5, vI x5), (6, vI (x6 + (1 : Int32))), (7, vI x8), (8, vI x8)]) dX12_account_119 6 rfl rfl (Nat.le_of_ble_eq_true rfl) [1, 2, 3, 4, 5, 6, 0, 7, 8] rfl ?_
              refine ea_iinc (pc := 122) (v := 1) (lv' := [(0, vR (some (b0 + 0))), (1, vI x1), (2, vI x2), (3, vI x3), (4, vI (x4 + (vX12_owed b0 (x8 : Int32) h))), (5, vI x5), (6, vI (x6 + (1 : Int32))), (7, vI x8), (8, vI (x8 + (1 : Int32)))]) dX12_account_122 8 rfl rfl (Nat.le_of_ble_eq_true rfl) [1, 2, 3, 4, 5, 6, 7, 8, 0] rfl ?_
              refine ea_goto (pc := 125) (tgt := 38) dX12_account_125 rfl ?_
              exact ((ih 38 (x1 : Int32) (x2 : Int32) (x3 : Int32) ((x4 + (vX12_owed b0 (x8 : Int32) h)) : Int32) (x5 : Int32) ((x6 + (1 : Int32)) : Int32) (x8 : Int32) ((x8 + (1 : Int32)) : Int32) h _ _ E hs).2 rfl)
        · have E := (if_pos c16).symm.trans E
          refine ea_iload (pc := 83) dX12_account_83 5 rfl ?_
          refine ea_aload_n (pc := 85) dX12_account_85 rfl 0 rfl ?_
          refine ea_iload (pc := 86) dX12_account_86 8 rfl ?_
          obtain ⟨z15, E⟩ := gd_some E
          refine ea_callV (pc := 88) (d' := d - 1) (As := [vI x8]) (st := [vI x5]) dX12_account_88 kX12_owed (sX12_owed (d := d - 1) (by omega) hs z15) (by omega) rfl (Nat.le_of_ble_eq_true rfl) ew_2027 ew_2029 ew_90 (ci := 12) rfl (by decide) (hs.1 0 (by decide)).1 (hs.1 0 (by decide)).2.1 ?_
          refine ea_iadd (pc := 91) dX12_account_91 ?_
          refine ea_istore (pc := 92) (lv' := [(0, vR (some (b0 + 0))), (1, vI x1), (2, vI x2), (3, vI x3), (4, vI (x4 + (vX12_owed b0 (x8 : Int32) h))), (5, vI (x5 + (vX12_owed b0 (x8 : Int32) h))), (6, vI x6), (7, vI x7), (8, vI x8)]) dX12_account_92 (Nat.le_of_ble_eq_true rfl) [1, 2, 3, 4, 5, 0, 6, 7, 8] rfl ?_
          refine ea_goto (pc := 94) (tgt := 122) dX12_account_94 rfl ?_
          refine ea_iinc (pc := 122) (v := 1) (lv' := [(0, vR (some (b0 + 0))), (1, vI x1), (2, vI x2), (3, vI x3), (4, vI (x4 + (vX12_owed b0 (x8 : Int32) h))), (5, vI (x5 + (vX12_owed b0 (x8 : Int32) h))), (6, vI x6), (7, vI x7), (8, vI (x8 + (1 : Int32)))]) dX12_account_122 8 rfl rfl (Nat.le_of_ble_eq_true rfl) [1, 2, 3, 4, 5, 6, 7, 8, 0] rfl ?_
          refine ea_goto (pc := 125) (tgt := 38) dX12_account_125 rfl ?_
          exact ((ih 38 (x1 : Int32) (x2 : Int32) (x3 : Int32) ((x4 + (vX12_owed b0 (x8 : Int32) h)) : Int32) ((x5 + (vX12_owed b0 (x8 : Int32) h)) : Int32) (x6 : Int32) (x7 : Int32) ((x8 + (1 : Int32)) : Int32) h _ _ E hs).2 rfl)
      · have E := (if_pos c17).symm.trans E
        refine ea_goto (pc := 58) (tgt := 122) dX12_account_58 rfl ?_
        refine ea_iinc (pc := 122) (v := 1) (lv' := [(0, vR (some (b0 + 0))), (1, vI x1), (2, vI x2), (3, vI x3), (4, vI x4), (5, vI x5), (6, vI x6), (7, vI x7), (8, vI (x8 + (1 : Int32)))]) dX12_account_122 8 rfl rfl (Nat.le_of_ble_eq_true rfl) [1, 2, 3, 4, 5, 6, 7, 8, 0] rfl ?_
        refine ea_goto (pc := 125) (tgt := 38) dX12_account_125 rfl ?_
        exact ((ih 38 (x1 : Int32) (x2 : Int32) (x3 : Int32) (x4 : Int32) (x5 : Int32) (x6 : Int32) (x7 : Int32) ((x8 + (1 : Int32)) : Int32) h _ _ E hs).2 rfl)
noncomputable def qX12_account (b0 : Nat) (x1 : Int32) (x2 : Int32) (x3 : Int32) (h : ea_H) : Option (Int32 × ea_H) := gX12_account b0 1000000000 0 x1 x2 x3 0 0 0 0 0 h
def okX12_account (b0 : Nat) (x1 : Int32) (x2 : Int32) (x3 : Int32) (h : ea_H) : Prop := ∃ x, qX12_account b0 x1 x2 x3 h = some x
noncomputable def vX12_account (b0 : Nat) (x1 : Int32) (x2 : Int32) (x3 : Int32) (h : ea_H) : Int32 := ((qX12_account b0 x1 x2 x3 h).getD (0, h)).1
noncomputable def wX12_account (b0 : Nat) (x1 : Int32) (x2 : Int32) (x3 : Int32) (h : ea_H) : ea_H := ((qX12_account b0 x1 x2 x3 h).getD (0, h)).2
theorem sX12_account {d : Nat} {b0 : Nat} {x1 : Int32} {x2 : Int32} {x3 : Int32} {h : ea_H} (hd : 3 ≤ d) (hs : ShM b0 h) (K : okX12_account b0 x1 x2 x3 h) : ea_Met mX12_account d [vR (some (b0 + 0)), vI x1, vI x2, vI x3] h (some (vI (vX12_account b0 x1 x2 x3 h))) (wX12_account b0 x1 x2 x3 h) := by
  obtain ⟨⟨x, y⟩, K⟩ := K
  unfold wX12_account vX12_account
  rw [K]
  unfold qX12_account at K
  exact ea_enter rfl (Nat.le_of_ble_eq_true rfl) ((tX12_account hd 1000000000 0 x1 x2 x3 0 0 0 0 0 h x y K hs).1 rfl)
theorem zX12_account {b0 : Nat} : ∀ (f lbl : Nat) (x1 : Int32) (x2 : Int32) (x3 : Int32) (x4 : Int32) (x5 : Int32) (x6 : Int32) (x7 : Int32) (x8 : Int32) (h : ea_H) (r : Int32) (h' : ea_H), gX12_account b0 f lbl x1 x2 x3 x4 x5 x6 x7 x8 h = some (r, h') → ShM b0 h → ShM b0 h' := by
  intro f
  induction f with
  | zero => intro lbl x1 x2 x3 x4 x5 x6 x7 x8 h r h' E; cases E
  | succ f ih =>
    intro lbl x1 x2 x3 x4 x5 x6 x7 x8 h r h' E hs
    unfold gX12_account at E
    by_cases el0 : lbl = 0
    · have E := (if_pos el0).symm.trans E
      by_cases c5 : (vX12_isTown b0 (x1 : Int32) h) = (0 : Int32)
      · have E := (if_pos c5).symm.trans E
        exact ea_shO E hs
      have E := (if_neg c5).symm.trans E
      by_cases c4 : (vX12_isTown b0 (x2 : Int32) h) = (0 : Int32)
      · have E := (if_pos c4).symm.trans E
        exact ea_shO E hs
      have E := (if_neg c4).symm.trans E
      by_cases c3 : x1 = x2
      · have E := (if_pos c3).symm.trans E
        exact ea_shO E hs
      have E := (if_neg c3).symm.trans E
      exact ih 38 (x1 : Int32) (x2 : Int32) (x3 : Int32) (0 : Int32) (0 : Int32) (0 : Int32) ((-1) : Int32) (0 : Int32) h _ _ E hs
    have E := (if_neg el0).symm.trans E
    by_cases el1 : lbl = 38
    · have E := (if_pos el1).symm.trans E
      by_cases c18 : (ea_i h (b0 + 0) 63) ≤ x8
      · have E := (if_pos c18).symm.trans E
        by_cases c8 : x3 = (0 : Int32)
        · have E := (if_pos c8).symm.trans E
          exact ea_shO E hs
        have E := (if_neg c8).symm.trans E
        by_cases c7 : x3 = (1 : Int32)
        · have E := (if_pos c7).symm.trans E
          exact ea_shO E hs
        have E := (if_neg c7).symm.trans E
        by_cases c6 : x3 = (2 : Int32)
        · have E := (if_pos c6).symm.trans E
          exact ea_shO E hs
        have E := (if_neg c6).symm.trans E
        exact ea_shO E hs
      have E := (if_neg c18).symm.trans E
      obtain ⟨z9, E⟩ := gd_some E
      by_cases c17 : (vX12_isOf b0 (x8 : Int32) (x1 : Int32) (x2 : Int32) h) = (0 : Int32)
      · have E := (if_pos c17).symm.trans E
        exact ih 38 (x1 : Int32) (x2 : Int32) (x3 : Int32) (x4 : Int32) (x5 : Int32) (x6 : Int32) (x7 : Int32) ((x8 + (1 : Int32)) : Int32) h _ _ E hs
      have E := (if_neg c17).symm.trans E
      obtain ⟨z10, E⟩ := gd_some E
      obtain ⟨z11, E⟩ := gd_some E
      by_cases c16 : (ea_i h (b0 + 55) (Int32.toNatClampNeg x8)) = (2 : Int32)
      · have E := (if_pos c16).symm.trans E
        obtain ⟨z15, E⟩ := gd_some E
        exact ih 38 (x1 : Int32) (x2 : Int32) (x3 : Int32) ((x4 + (vX12_owed b0 (x8 : Int32) h)) : Int32) ((x5 + (vX12_owed b0 (x8 : Int32) h)) : Int32) (x6 : Int32) (x7 : Int32) ((x8 + (1 : Int32)) : Int32) h _ _ E hs
      have E := (if_neg c16).symm.trans E
      obtain ⟨z12, E⟩ := gd_some E
      by_cases c14 : (vX12_owed b0 (x8 : Int32) h) ≤ (0 : Int32)
      · have E := (if_pos c14).symm.trans E
        exact ih 38 (x1 : Int32) (x2 : Int32) (x3 : Int32) ((x4 + (vX12_owed b0 (x8 : Int32) h)) : Int32) (x5 : Int32) (x6 : Int32) (x7 : Int32) ((x8 + (1 : Int32)) : Int32) h _ _ E hs
      have E := (if_neg c14).symm.trans E
      by_cases c13 : x6 = (x3 - (10 : Int32))
      · have E := (if_pos c13).symm.trans E
        exact ih 38 (x1 : Int32) (x2 : Int32) (x3 : Int32) ((x4 + (vX12_owed b0 (x8 : Int32) h)) : Int32) (x5 : Int32) ((x6 + (1 : Int32)) : Int32) (x8 : Int32) ((x8 + (1 : Int32)) : Int32) h _ _ E hs
      have E := (if_neg c13).symm.trans E
      exact ih 38 (x1 : Int32) (x2 : Int32) (x3 : Int32) ((x4 + (vX12_owed b0 (x8 : Int32) h)) : Int32) (x5 : Int32) ((x6 + (1 : Int32)) : Int32) (x7 : Int32) ((x8 + (1 : Int32)) : Int32) h _ _ E hs
    have E := (if_neg el1).symm.trans E
    cases E
theorem shX12_account {b0 : Nat} {x1 : Int32} {x2 : Int32} {x3 : Int32} {h : ea_H} (hs : ShM b0 h) : ShM b0 (wX12_account b0 x1 x2 x3 h) := by
  unfold wX12_account
  cases K : qX12_account b0 x1 x2 x3 h with
  | none => exact hs
  | some x => obtain ⟨x, y⟩ := x; unfold qX12_account at K; exact zX12_account _ _ _ _ _ _ _ _ _ _ _ _ _ K hs
noncomputable def gX12_place (b0 : Nat) : Nat → Nat → Int32 → Int32 → Int32 → Int32 → ea_H → Option (Int32 × ea_H)
  | 0, _, _, _, _, _, _ => none
  | f + 1, lbl, x1, x2, x3, x4, h =>
    if lbl = 0 then (if (vX12_isLetterOf b0 (x1 : Int32) h) = (0 : Int32) then (some ((0 : Int32), h)) else (gd (vp_in x1 120) (if (ea_i h (b0 + 55) (Int32.toNatClampNeg x1)) = (3 : Int32) then (if (vX12_isTown b0 (x2 : Int32) h) = (0 : Int32) then (some ((0 : Int32), h)) else (gd (vp_in x1 120) (if x2 = (ea_i h (b0 + 40) (Int32.toNatClampNeg x1)) then (some ((0 : Int32), h)) else (if (vX12_isIn (x3 : Int32) (1 : Int32) (99 : Int32) h) = (0 : Int32) then (some ((0 : Int32), h)) else (gX12_place b0 f 51 (x1 : Int32) (x2 : Int32) (x3 : Int32) (0 : Int32) h))))) else (some ((0 : Int32), h))))) else
    if lbl = 51 then (gd (vp_in x1 120) (if (ea_i h (b0 + 70) (Int32.toNatClampNeg x1)) ≤ x4 then (gX12_place b0 f 83 (x1 : Int32) (x2 : Int32) (x3 : Int32) (x4 : Int32) h) else (gd (vp_in (((4 : Int32) * x1) + x4) 480) (if (ea_i h (b0 + 71) (Int32.toNatClampNeg (((4 : Int32) * x1) + x4))) = x2 then (gX12_place b0 f 83 (x1 : Int32) (x2 : Int32) (x3 : Int32) (x4 : Int32) h) else (gX12_place b0 f 51 (x1 : Int32) (x2 : Int32) (x3 : Int32) ((x4 + (1 : Int32)) : Int32) h))))) else
    if lbl = 83 then (if x4 = (4 : Int32) then (some ((0 : Int32), h)) else (gd (vp_in (((4 : Int32) * x1) + x4) 480) (gd (vp_in (((4 : Int32) * x1) + x4) 480) (gd (vp_in x1 120) (if x4 = (ea_i (ea_wi (ea_wi h (b0 + 71) (Int32.toNatClampNeg (((4 : Int32) * x1) + x4)) x2) (b0 + 72) (Int32.toNatClampNeg (((4 : Int32) * x1) + x4)) x3) (b0 + 70) (Int32.toNatClampNeg x1)) then (gd (vp_in x1 120) (gd (vp_in x1 120) (some ((1 : Int32), (ea_wi (ea_wi (ea_wi h (b0 + 71) (Int32.toNatClampNeg (((4 : Int32) * x1) + x4)) x2) (b0 + 72) (Int32.toNatClampNeg (((4 : Int32) * x1) + x4)) x3) (b0 + 70) (Int32.toNatClampNeg x1) ((ea_i (ea_wi (ea_wi h (b0 + 71) (Int32.toNatClampNeg (((4 : Int32) * x1) + x4)) x2) (b0 + 72) (Int32.toNatClampNeg (((4 : Int32) * x1) + x4)) x3) (b0 + 70) (Int32.toNatClampNeg x1)) + (1 : Int32))))))) else (some ((1 : Int32), (ea_wi (ea_wi h (b0 + 71) (Int32.toNatClampNeg (((4 : Int32) * x1) + x4)) x2) (b0 + 72) (Int32.toNatClampNeg (((4 : Int32) * x1) + x4)) x3)))))))) else none
theorem tX12_place {d : Nat} {b0 : Nat} {h0 : ea_H} (hd : 3 ≤ d) : ∀ (f lbl : Nat) (x1 : Int32) (x2 : Int32) (x3 : Int32) (x4 : Int32) (h : ea_H) (r : Int32) (h' : ea_H), gX12_place b0 f lbl x1 x2 x3 x4 h = some (r, h') → ShM b0 h → (lbl = 0 → ea_W mX12_place d h0 (some (vI r)) h' 0 [(0, vR (some (b0 + 0))), (1, vI x1), (2, vI x2), (3, vI x3)] [] h) ∧ (lbl = 51 → ea_W mX12_place d h0 (some (vI r)) h' 51 [(0, vR (some (b0 + 0))), (1, vI x1), (2, vI x2), (3, vI x3), (4, vI x4)] [] h) ∧ (lbl = 83 → ea_W mX12_place d h0 (some (vI r)) h' 83 [(0, vR (some (b0 + 0))), (1, vI x1), (2, vI x2), (3, vI x3), (4, vI x4)] [] h) := by
  intro f
  induction f with
  | zero => intro lbl x1 x2 x3 x4 h r h' E; cases E
  | succ f ih =>
    intro lbl x1 x2 x3 x4 h r h' E hs
    unfold gX12_place at E
    refine ⟨?_, ?_⟩
    · intro el
      subst el
      have E := (if_pos rfl).symm.trans E
      refine ea_aload_n (pc := 0) dX12_place_0 rfl 0 rfl ?_
      refine ea_iload_n (pc := 1) dX12_place_1 rfl 1 rfl ?_
      refine ea_callV (pc := 2) (d' := d - 1) (As := [vI x1]) (st := []) dX12_place_2 kX12_isLetterOf (sX12_isLetterOf (d := d - 1) (by omega) hs) (by omega) rfl (Nat.le_of_ble_eq_true rfl) ew_2019 ew_2021 ew_89 (ci := 12) rfl (by decide) (hs.1 0 (by decide)).1 (hs.1 0 (by decide)).2.1 ?_
      refine ea_if_eq (pc := 5) (tgt := 46) dX12_place_5 rfl (fun c10 => ?_) (fun c10 => ?_)
      · have E := (if_pos c10).symm.trans E
        refine ea_iconst (pc := 46) dX12_place_46 (v := 0) rfl ?_
        exact ea_iretO (pc := 47) dX12_place_47 rfl (ea_bn (Or.inl rfl)) E
      · have E := (if_neg c10).symm.trans E
        refine ea_aload_n (pc := 8) dX12_place_8 rfl 0 rfl ?_
        refine ea_getR (pc := 9) dX12_place_9 ec_12 (k := 81) (Nat.le_of_ble_eq_true rfl) rfl (Or.inl ew_1426) (hs.1 0 (by decide)).1 (hs.1 0 (by decide)).2.1 (hs.2 0 81 rfl) ?_
        refine ea_iload_n (pc := 12) dX12_place_12 rfl 1 rfl ?_
        obtain ⟨z2, E⟩ := gd_some E
        refine ea_iald (pc := 13) dX12_place_13 (hs.1 55 (by decide)).1 (hs.1 55 (by decide)).2.1 (ea_vpl (hs.1 55 (by decide)).2.2 z2) ?_
        refine ea_iconst (pc := 14) dX12_place_14 (v := 3) rfl ?_
        refine ea_icmp_ne (pc := 15) (tgt := 46) dX12_place_15 rfl (fun c9 => ?_) (fun c9 => ?_)
        · have E := (if_neg c9).symm.trans E
          refine ea_iconst (pc := 46) dX12_place_46 (v := 0) rfl ?_
          exact ea_iretO (pc := 47) dX12_place_47 rfl (ea_bn (Or.inl rfl)) E
        · have E := (if_pos c9).symm.trans E
          refine ea_aload_n (pc := 18) dX12_place_18 rfl 0 rfl ?_
          refine ea_iload_n (pc := 19) dX12_place_19 rfl 2 rfl ?_
          refine ea_callV (pc := 20) (d' := d - 1) (As := [vI x2]) (st := []) dX12_place_20 kX12_isTown (sX12_isTown (d := d - 1) (by omega) hs) (by omega) rfl (Nat.le_of_ble_eq_true rfl) ew_1708 ew_1710 ew_47 (ci := 12) rfl (by decide) (hs.1 0 (by decide)).1 (hs.1 0 (by decide)).2.1 ?_
          refine ea_if_eq (pc := 23) (tgt := 46) dX12_place_23 rfl (fun c8 => ?_) (fun c8 => ?_)
          · have E := (if_pos c8).symm.trans E
            refine ea_iconst (pc := 46) dX12_place_46 (v := 0) rfl ?_
            exact ea_iretO (pc := 47) dX12_place_47 rfl (ea_bn (Or.inl rfl)) E
          · have E := (if_neg c8).symm.trans E
            refine ea_iload_n (pc := 26) dX12_place_26 rfl 2 rfl ?_
            refine ea_aload_n (pc := 27) dX12_place_27 rfl 0 rfl ?_
            refine ea_getR (pc := 28) dX12_place_28 ec_12 (k := 66) (Nat.le_of_ble_eq_true rfl) rfl (Or.inl ew_1411) (hs.1 0 (by decide)).1 (hs.1 0 (by decide)).2.1 (hs.2 0 66 rfl) ?_
            refine ea_iload_n (pc := 31) dX12_place_31 rfl 1 rfl ?_
            obtain ⟨z4, E⟩ := gd_some E
            refine ea_iald (pc := 32) dX12_place_32 (hs.1 40 (by decide)).1 (hs.1 40 (by decide)).2.1 (ea_vpl (hs.1 40 (by decide)).2.2 z4) ?_
            refine ea_icmp_eq (pc := 33) (tgt := 46) dX12_place_33 rfl (fun c7 => ?_) (fun c7 => ?_)
            · have E := (if_pos c7).symm.trans E
              refine ea_iconst (pc := 46) dX12_place_46 (v := 0) rfl ?_
              exact ea_iretO (pc := 47) dX12_place_47 rfl (ea_bn (Or.inl rfl)) E
            · have E := (if_neg c7).symm.trans E
              refine ea_iload_n (pc := 36) dX12_place_36 rfl 3 rfl ?_
              refine ea_iconst (pc := 37) dX12_place_37 (v := 1) rfl ?_
              refine ea_bipush (pc := 38) dX12_place_38 (v := 99) rfl ?_
              refine ea_callS (pc := 40) (d' := d - 1) (As := [vI x3, vI 1, vI 99]) (st := []) dX12_place_40 kX12_isIn (sX12_isIn (d := d - 1) (by omega)) (by omega) rfl (Nat.le_of_ble_eq_true rfl) ew_1712 ew_1713 ?_
              refine ea_if_ne (pc := 43) (tgt := 48) dX12_place_43 rfl (fun c6 => ?_) (fun c6 => ?_)
              · have E := (if_neg c6).symm.trans E
                refine ea_iconst (pc := 48) dX12_place_48 (v := 0) rfl ?_
                refine ea_istore (pc := 49) (lv' := [(0, vR (some (b0 + 0))), (1, vI x1), (2, vI x2), (3, vI x3), (4, vI 0)]) dX12_place_49 (Nat.le_of_ble_eq_true rfl) [1, 2, 3, 4, 0] rfl ?_
                exact ((ih 51 (x1 : Int32) (x2 : Int32) (x3 : Int32) (0 : Int32) h _ _ E hs).2.1 rfl)
              · have E := (if_pos c6).symm.trans E
                refine ea_iconst (pc := 46) dX12_place_46 (v := 0) rfl ?_
                exact ea_iretO (pc := 47) dX12_place_47 rfl (ea_bn (Or.inl rfl)) E
    refine ⟨?_, ?_⟩
    · intro el
      subst el
      have E := (if_neg (by decide)).symm.trans E
      have E := (if_pos rfl).symm.trans E
      refine ea_iload (pc := 51) dX12_place_51 4 rfl ?_
      refine ea_aload_n (pc := 53) dX12_place_53 rfl 0 rfl ?_
      refine ea_getR (pc := 54) dX12_place_54 ec_12 (k := 97) (Nat.le_of_ble_eq_true rfl) rfl (Or.inl ew_1442) (hs.1 0 (by decide)).1 (hs.1 0 (by decide)).2.1 (hs.2 0 97 rfl) ?_
      refine ea_iload_n (pc := 57) dX12_place_57 rfl 1 rfl ?_
      obtain ⟨z11, E⟩ := gd_some E
      refine ea_iald (pc := 58) dX12_place_58 (hs.1 70 (by decide)).1 (hs.1 70 (by decide)).2.1 (ea_vpl (hs.1 70 (by decide)).2.2 z11) ?_
      refine ea_icmp_ge (pc := 59) (tgt := 83) dX12_place_59 rfl (fun c14 => ?_) (fun c14 => ?_)
      · have E := (if_pos c14).symm.trans E
        exact ((ih 83 (x1 : Int32) (x2 : Int32) (x3 : Int32) (x4 : Int32) h _ _ E hs).2.2 rfl)
      · have E := (if_neg c14).symm.trans E
        refine ea_aload_n (pc := 62) dX12_place_62 rfl 0 rfl ?_
        refine ea_getR (pc := 63) dX12_place_63 ec_12 (k := 98) (Nat.le_of_ble_eq_true rfl) rfl (Or.inl ew_1443) (hs.1 0 (by decide)).1 (hs.1 0 (by decide)).2.1 (hs.2 0 98 rfl) ?_
        refine ea_iconst (pc := 66) dX12_place_66 (v := 4) rfl ?_
        refine ea_iload_n (pc := 67) dX12_place_67 rfl 1 rfl ?_
        refine ea_imul (pc := 68) dX12_place_68 ?_
        refine ea_iload (pc := 69) dX12_place_69 4 rfl ?_
        refine ea_iadd (pc := 71) dX12_place_71 ?_
        obtain ⟨z12, E⟩ := gd_some E
        refine ea_iald (pc := 72) dX12_place_72 (hs.1 71 (by decide)).1 (hs.1 71 (by decide)).2.1 (ea_vpl (hs.1 71 (by decide)).2.2 z12) ?_
        refine ea_iload_n (pc := 73) dX12_place_73 rfl 2 rfl ?_
        refine ea_icmp_eq (pc := 74) (tgt := 83) dX12_place_74 rfl (fun c13 => ?_) (fun c13 => ?_)
        · have E := (if_pos c13).symm.trans E
          exact ((ih 83 (x1 : Int32) (x2 : Int32) (x3 : Int32) (x4 : Int32) h _ _ E hs).2.2 rfl)
        · have E := (if_neg c13).symm.trans E
          refine ea_iinc (pc := 77) (v := 1) (lv' := [(0, vR (some (b0 + 0))), (1, vI x1), (2, vI x2), (3, vI x3), (4, vI (x4 + (1 : Int32)))]) dX12_place_77 4 rfl rfl (Nat.le_of_ble_eq_true rfl) [1, 2, 3, 4, 0] rfl ?_
          refine ea_goto (pc := 80) (tgt := 51) dX12_place_80 rfl ?_
          exact ((ih 51 (x1 : Int32) (x2 : Int32) (x3 : Int32) ((x4 + (1 : Int32)) : Int32) h _ _ E hs).2.1 rfl)
    intro el
    subst el
    have E := (if_neg (by decide)).symm.trans E
    have E := (if_neg (by decide)).symm.trans E
    have E := (if_pos rfl).symm.trans E
    refine ea_iload (pc := 83) dX12_place_83 4 rfl ?_
    refine ea_iconst (pc := 85) dX12_place_85 (v := 4) rfl ?_
    refine ea_icmp_ne (pc := 86) (tgt := 91) dX12_place_86 rfl (fun c24 => ?_) (fun c24 => ?_)
    · have E := (if_neg c24).symm.trans E
      refine ea_aload_n (pc := 91) dX12_place_91 rfl 0 rfl ?_
      refine ea_getR (pc := 92) dX12_place_92 ec_12 (k := 98) (Nat.le_of_ble_eq_true rfl) rfl (Or.inl ew_1443) (hs.1 0 (by decide)).1 (hs.1 0 (by decide)).2.1 (hs.2 0 98 rfl) ?_
      refine ea_iconst (pc := 95) dX12_place_95 (v := 4) rfl ?_
      refine ea_iload_n (pc := 96) dX12_place_96 rfl 1 rfl ?_
      refine ea_imul (pc := 97) dX12_place_97 ?_
      refine ea_iload (pc := 98) dX12_place_98 4 rfl ?_
      refine ea_iadd (pc := 100) dX12_place_100 ?_
      refine ea_iload_n (pc := 101) dX12_place_101 rfl 2 rfl ?_
      obtain ⟨z15, E⟩ := gd_some E
      refine ea_iast (pc := 102) dX12_place_102 (hs.1 71 (by decide)).1 (hs.1 71 (by decide)).2.1 (ea_vpl (hs.1 71 (by decide)).2.2 z15) ?_
      have hs16 : ShM b0 (ea_wi h (b0 + 71) (Int32.toNatClampNeg (((4 : Int32) * x1) + x4)) x2) := ShM_wi hs
      refine ea_aload_n (pc := 103) dX12_place_103 rfl 0 rfl ?_
      refine ea_getR (pc := 104) dX12_place_104 ec_12 (k := 99) (Nat.le_of_ble_eq_true rfl) rfl (Or.inl ew_1444) (hs16.1 0 (by decide)).1 (hs16.1 0 (by decide)).2.1 (hs16.2 0 99 rfl) ?_
      refine ea_iconst (pc := 107) dX12_place_107 (v := 4) rfl ?_
      refine ea_iload_n (pc := 108) dX12_place_108 rfl 1 rfl ?_
      refine ea_imul (pc := 109) dX12_place_109 ?_
      refine ea_iload (pc := 110) dX12_place_110 4 rfl ?_
      refine ea_iadd (pc := 112) dX12_place_112 ?_
      refine ea_iload_n (pc := 113) dX12_place_113 rfl 3 rfl ?_
      obtain ⟨z17, E⟩ := gd_some E
      refine ea_iast (pc := 114) dX12_place_114 (hs16.1 72 (by decide)).1 (hs16.1 72 (by decide)).2.1 (ea_vpl (hs16.1 72 (by decide)).2.2 z17) ?_
      have hs18 : ShM b0 (ea_wi (ea_wi h (b0 + 71) (Int32.toNatClampNeg (((4 : Int32) * x1) + x4)) x2) (b0 + 72) (Int32.toNatClampNeg (((4 : Int32) * x1) + x4)) x3) := ShM_wi hs16
      refine ea_iload (pc := 115) dX12_place_115 4 rfl ?_
      refine ea_aload_n (pc := 117) dX12_place_117 rfl 0 rfl ?_
      refine ea_getR (pc := 118) dX12_place_118 ec_12 (k := 97) (Nat.le_of_ble_eq_true rfl) rfl (Or.inl ew_1442) (hs18.1 0 (by decide)).1 (hs18.1 0 (by decide)).2.1 (hs18.2 0 97 rfl) ?_
      refine ea_iload_n (pc := 121) dX12_place_121 rfl 1 rfl ?_
      obtain ⟨z19, E⟩ := gd_some E
      refine ea_iald (pc := 122) dX12_place_122 (hs18.1 70 (by decide)).1 (hs18.1 70 (by decide)).2.1 (ea_vpl (hs18.1 70 (by decide)).2.2 z19) ?_
      refine ea_icmp_ne (pc := 123) (tgt := 136) dX12_place_123 rfl (fun c23 => ?_) (fun c23 => ?_)
      · have E := (if_neg c23).symm.trans E
        refine ea_iconst (pc := 136) dX12_place_136 (v := 1) rfl ?_
        exact ea_iretO (pc := 137) dX12_place_137 rfl (ea_bn (Or.inr rfl)) E
      · have E := (if_pos c23).symm.trans E
        refine ea_aload_n (pc := 126) dX12_place_126 rfl 0 rfl ?_
        refine ea_getR (pc := 127) dX12_place_127 ec_12 (k := 97) (Nat.le_of_ble_eq_true rfl) rfl (Or.inl ew_1442) (hs18.1 0 (by decide)).1 (hs18.1 0 (by decide)).2.1 (hs18.2 0 97 rfl) ?_
        refine ea_iload_n (pc := 130) dX12_place_130 rfl 1 rfl ?_
        refine ea_dup2 (pc := 131) dX12_place_131 rfl rfl ?_
        obtain ⟨z20, E⟩ := gd_some E
        refine ea_iald (pc := 132) dX12_place_132 (hs18.1 70 (by decide)).1 (hs18.1 70 (by decide)).2.1 (ea_vpl (hs18.1 70 (by decide)).2.2 z20) ?_
        refine ea_iconst (pc := 133) dX12_place_133 (v := 1) rfl ?_
        refine ea_iadd (pc := 134) dX12_place_134 ?_
        obtain ⟨z21, E⟩ := gd_some E
        refine ea_iast (pc := 135) dX12_place_135 (hs18.1 70 (by decide)).1 (hs18.1 70 (by decide)).2.1 (ea_vpl (hs18.1 70 (by decide)).2.2 z21) ?_
        have hs22 : ShM b0 (ea_wi (ea_wi (ea_wi h (b0 + 71) (Int32.toNatClampNeg (((4 : Int32) * x1) + x4)) x2) (b0 + 72) (Int32.toNatClampNeg (((4 : Int32) * x1) + x4)) x3) (b0 + 70) (Int32.toNatClampNeg x1) ((ea_i (ea_wi (ea_wi h (b0 + 71) (Int32.toNatClampNeg (((4 : Int32) * x1) + x4)) x2) (b0 + 72) (Int32.toNatClampNeg (((4 : Int32) * x1) + x4)) x3) (b0 + 70) (Int32.toNatClampNeg x1)) + (1 : Int32))) := ShM_wi hs18
        refine ea_iconst (pc := 136) dX12_place_136 (v := 1) rfl ?_
        exact ea_iretO (pc := 137) dX12_place_137 rfl (ea_bn (Or.inr rfl)) E
    · have E := (if_pos c24).symm.trans E
      refine ea_iconst (pc := 89) dX12_place_89 (v := 0) rfl ?_
      exact ea_iretO (pc := 90) dX12_place_90 rfl (ea_bn (Or.inl rfl)) E
noncomputable def qX12_place (b0 : Nat) (x1 : Int32) (x2 : Int32) (x3 : Int32) (h : ea_H) : Option (Int32 × ea_H) := gX12_place b0 1000000000 0 x1 x2 x3 0 h
def okX12_place (b0 : Nat) (x1 : Int32) (x2 : Int32) (x3 : Int32) (h : ea_H) : Prop := ∃ x, qX12_place b0 x1 x2 x3 h = some x
noncomputable def vX12_place (b0 : Nat) (x1 : Int32) (x2 : Int32) (x3 : Int32) (h : ea_H) : Int32 := ((qX12_place b0 x1 x2 x3 h).getD (0, h)).1
noncomputable def wX12_place (b0 : Nat) (x1 : Int32) (x2 : Int32) (x3 : Int32) (h : ea_H) : ea_H := ((qX12_place b0 x1 x2 x3 h).getD (0, h)).2
theorem sX12_place {d : Nat} {b0 : Nat} {x1 : Int32} {x2 : Int32} {x3 : Int32} {h : ea_H} (hd : 3 ≤ d) (hs : ShM b0 h) (K : okX12_place b0 x1 x2 x3 h) : ea_Met mX12_place d [vR (some (b0 + 0)), vI x1, vI x2, vI x3] h (some (vI (vX12_place b0 x1 x2 x3 h))) (wX12_place b0 x1 x2 x3 h) := by
  obtain ⟨⟨x, y⟩, K⟩ := K
  unfold wX12_place vX12_place
  rw [K]
  unfold qX12_place at K
  exact ea_enter rfl (Nat.le_of_ble_eq_true rfl) ((tX12_place hd 1000000000 0 x1 x2 x3 0 h x y K hs).1 rfl)
theorem zX12_place {b0 : Nat} : ∀ (f lbl : Nat) (x1 : Int32) (x2 : Int32) (x3 : Int32) (x4 : Int32) (h : ea_H) (r : Int32) (h' : ea_H), gX12_place b0 f lbl x1 x2 x3 x4 h = some (r, h') → ShM b0 h → ShM b0 h' := by
  intro f
  induction f with
  | zero => intro lbl x1 x2 x3 x4 h r h' E; cases E
  | succ f ih =>
    intro lbl x1 x2 x3 x4 h r h' E hs
    unfold gX12_place at E
    by_cases el0 : lbl = 0
    · have E := (if_pos el0).symm.trans E
      by_cases c10 : (vX12_isLetterOf b0 (x1 : Int32) h) = (0 : Int32)
      · have E := (if_pos c10).symm.trans E
        exact ea_shO E hs
      have E := (if_neg c10).symm.trans E
      obtain ⟨z2, E⟩ := gd_some E
      by_cases c9 : (ea_i h (b0 + 55) (Int32.toNatClampNeg x1)) = (3 : Int32)
      · have E := (if_pos c9).symm.trans E
        by_cases c8 : (vX12_isTown b0 (x2 : Int32) h) = (0 : Int32)
        · have E := (if_pos c8).symm.trans E
          exact ea_shO E hs
        have E := (if_neg c8).symm.trans E
        obtain ⟨z4, E⟩ := gd_some E
        by_cases c7 : x2 = (ea_i h (b0 + 40) (Int32.toNatClampNeg x1))
        · have E := (if_pos c7).symm.trans E
          exact ea_shO E hs
        have E := (if_neg c7).symm.trans E
        by_cases c6 : (vX12_isIn (x3 : Int32) (1 : Int32) (99 : Int32) h) = (0 : Int32)
        · have E := (if_pos c6).symm.trans E
          exact ea_shO E hs
        have E := (if_neg c6).symm.trans E
        exact ih 51 (x1 : Int32) (x2 : Int32) (x3 : Int32) (0 : Int32) h _ _ E hs
      have E := (if_neg c9).symm.trans E
      exact ea_shO E hs
    have E := (if_neg el0).symm.trans E
    by_cases el1 : lbl = 51
    · have E := (if_pos el1).symm.trans E
      obtain ⟨z11, E⟩ := gd_some E
      by_cases c14 : (ea_i h (b0 + 70) (Int32.toNatClampNeg x1)) ≤ x4
      · have E := (if_pos c14).symm.trans E
        exact ih 83 (x1 : Int32) (x2 : Int32) (x3 : Int32) (x4 : Int32) h _ _ E hs
      have E := (if_neg c14).symm.trans E
      obtain ⟨z12, E⟩ := gd_some E
      by_cases c13 : (ea_i h (b0 + 71) (Int32.toNatClampNeg (((4 : Int32) * x1) + x4))) = x2
      · have E := (if_pos c13).symm.trans E
        exact ih 83 (x1 : Int32) (x2 : Int32) (x3 : Int32) (x4 : Int32) h _ _ E hs
      have E := (if_neg c13).symm.trans E
      exact ih 51 (x1 : Int32) (x2 : Int32) (x3 : Int32) ((x4 + (1 : Int32)) : Int32) h _ _ E hs
    have E := (if_neg el1).symm.trans E
    by_cases el2 : lbl = 83
    · have E := (if_pos el2).symm.trans E
      by_cases c24 : x4 = (4 : Int32)
      · have E := (if_pos c24).symm.trans E
        exact ea_shO E hs
      have E := (if_neg c24).symm.trans E
      obtain ⟨z15, E⟩ := gd_some E
      obtain ⟨z17, E⟩ := gd_some E
      obtain ⟨z19, E⟩ := gd_some E
      by_cases c23 : x4 = (ea_i (ea_wi (ea_wi h (b0 + 71) (Int32.toNatClampNeg (((4 : Int32) * x1) + x4)) x2) (b0 + 72) (Int32.toNatClampNeg (((4 : Int32) * x1) + x4)) x3) (b0 + 70) (Int32.toNatClampNeg x1))
      · have E := (if_pos c23).symm.trans E
        obtain ⟨z20, E⟩ := gd_some E
        obtain ⟨z21, E⟩ := gd_some E
        exact ea_shO E (ShM_wi (ShM_wi (ShM_wi hs)))
      have E := (if_neg c23).symm.trans E
      exact ea_shO E (ShM_wi (ShM_wi hs))
    have E := (if_neg el2).symm.trans E
    cases E
theorem shX12_place {b0 : Nat} {x1 : Int32} {x2 : Int32} {x3 : Int32} {h : ea_H} (hs : ShM b0 h) : ShM b0 (wX12_place b0 x1 x2 x3 h) := by
  unfold wX12_place
  cases K : qX12_place b0 x1 x2 x3 h with
  | none => exact hs
  | some x => obtain ⟨x, y⟩ := x; unfold qX12_place at K; exact zX12_place _ _ _ _ _ _ _ _ _ K hs
noncomputable def gX12_ordered (b0 : Nat) : Nat → Nat → Int32 → Int32 → Int32 → Int32 → Int32 → ea_H → Option (Int32 × ea_H)
  | 0, _, _, _, _, _, _, _ => none
  | f + 1, lbl, x1, x2, x3, x4, x5, h =>
    if lbl = 0 then (gX12_ordered b0 f 2 (x1 : Int32) (x2 : Int32) (0 : Int32) 0 0 h) else
    if lbl = 2 then (gd (vp_in x1 120) (if (ea_i h (b0 + 70) (Int32.toNatClampNeg x1)) ≤ x3 then (some (((-1) : Int32), h)) else (gX12_ordered b0 f 18 (x1 : Int32) (x2 : Int32) (x3 : Int32) (0 : Int32) (0 : Int32) h))) else
    if lbl = 18 then (gd (vp_in x1 120) (if (ea_i h (b0 + 70) (Int32.toNatClampNeg x1)) ≤ x5 then (if x4 = x2 then (some ((((4 : Int32) * x1) + x3), h)) else (gX12_ordered b0 f 2 (x1 : Int32) (x2 : Int32) ((x3 + (1 : Int32)) : Int32) 0 0 h)) else (gd (vp_in (((4 : Int32) * x1) + x5) 480) (gd (vp_in (((4 : Int32) * x1) + x3) 480) (if (ea_i h (b0 + 72) (Int32.toNatClampNeg (((4 : Int32) * x1) + x3))) < (ea_i h (b0 + 72) (Int32.toNatClampNeg (((4 : Int32) * x1) + x5))) then (gX12_ordered b0 f 18 (x1 : Int32) (x2 : Int32) (x3 : Int32) ((x4 + (1 : Int32)) : Int32) ((x5 + (1 : Int32)) : Int32) h) else (if (ea_i h (b0 + 72) (Int32.toNatClampNeg (((4 : Int32) * x1) + x5))) = (ea_i h (b0 + 72) (Int32.toNatClampNeg (((4 : Int32) * x1) + x3))) then (gd (vp_in (((4 : Int32) * x1) + x5) 480) (gd (vp_in (((4 : Int32) * x1) + x3) 480) (if (ea_i h (b0 + 71) (Int32.toNatClampNeg (((4 : Int32) * x1) + x3))) ≤ (ea_i h (b0 + 71) (Int32.toNatClampNeg (((4 : Int32) * x1) + x5))) then (gX12_ordered b0 f 18 (x1 : Int32) (x2 : Int32) (x3 : Int32) ((x4 + (0 : Int32)) : Int32) ((x5 + (1 : Int32)) : Int32) h) else (gX12_ordered b0 f 18 (x1 : Int32) (x2 : Int32) (x3 : Int32) ((x4 + (1 : Int32)) : Int32) ((x5 + (1 : Int32)) : Int32) h)))) else (gX12_ordered b0 f 18 (x1 : Int32) (x2 : Int32) (x3 : Int32) ((x4 + (0 : Int32)) : Int32) ((x5 + (1 : Int32)) : Int32) h))))))) else none
theorem tX12_ordered {d : Nat} {b0 : Nat} {h0 : ea_H} (hd : 1 ≤ d) : ∀ (f lbl : Nat) (x1 : Int32) (x2 : Int32) (x3 : Int32) (x4 : Int32) (x5 : Int32) (h : ea_H) (r : Int32) (h' : ea_H), gX12_ordered b0 f lbl x1 x2 x3 x4 x5 h = some (r, h') → ShM b0 h → (lbl = 0 → ea_W mX12_ordered d h0 (some (vI r)) h' 0 [(0, vR (some (b0 + 0))), (1, vI x1), (2, vI x2)] [] h) ∧ (lbl = 2 → ea_W mX12_ordered d h0 (some (vI r)) h' 2 [(0, vR (some (b0 + 0))), (1, vI x1), (2, vI x2), (3, vI x3)] [] h) ∧ (lbl = 18 → ea_W mX12_ordered d h0 (some (vI r)) h' 18 [(0, vR (some (b0 + 0))), (1, vI x1), (2, vI x2), (3, vI x3), (4, vI x4), (5, vI x5)] [] h) := by
  intro f
  induction f with
  | zero => intro lbl x1 x2 x3 x4 x5 h r h' E; cases E
  | succ f ih =>
    intro lbl x1 x2 x3 x4 x5 h r h' E hs
    unfold gX12_ordered at E
    refine ⟨?_, ?_⟩
    · intro el
      subst el
      have E := (if_pos rfl).symm.trans E
      refine ea_iconst (pc := 0) dX12_ordered_0 (v := 0) rfl ?_
      refine ea_istore_n (pc := 1) (lv' := [(0, vR (some (b0 + 0))), (1, vI x1), (2, vI x2), (3, vI 0)]) dX12_ordered_1 rfl (Nat.le_of_ble_eq_true rfl) [1, 2, 3, 0] rfl ?_
      exact ((ih 2 (x1 : Int32) (x2 : Int32) (0 : Int32) 0 0 h _ _ E hs).2.1 rfl)
    refine ⟨?_, ?_⟩
    · intro el
      subst el
      have E := (if_neg (by decide)).symm.trans E
      have E := (if_pos rfl).symm.trans E
      refine ea_iload_n (pc := 2) dX12_ordered_2 rfl 3 rfl ?_
      refine ea_aload_n (pc := 3) dX12_ordered_3 rfl 0 rfl ?_
      refine ea_getR (pc := 4) dX12_ordered_4 ec_12 (k := 97) (Nat.le_of_ble_eq_true rfl) rfl (Or.inl ew_1442) (hs.1 0 (by decide)).1 (hs.1 0 (by decide)).2.1 (hs.2 0 97 rfl) ?_
      refine ea_iload_n (pc := 7) dX12_ordered_7 rfl 1 rfl ?_
      obtain ⟨z1, E⟩ := gd_some E
      refine ea_iald (pc := 8) dX12_ordered_8 (hs.1 70 (by decide)).1 (hs.1 70 (by decide)).2.1 (ea_vpl (hs.1 70 (by decide)).2.2 z1) ?_
      refine ea_icmp_ge (pc := 9) (tgt := 126) dX12_ordered_9 rfl (fun c2 => ?_) (fun c2 => ?_)
      · have E := (if_pos c2).symm.trans E
        refine ea_iconst (pc := 126) dX12_ordered_126 (v := (-1)) rfl ?_
        exact ea_iretO (pc := 127) dX12_ordered_127 rfl rfl E
      · have E := (if_neg c2).symm.trans E
        refine ea_iconst (pc := 12) dX12_ordered_12 (v := 0) rfl ?_
        refine ea_istore (pc := 13) (lv' := [(0, vR (some (b0 + 0))), (1, vI x1), (2, vI x2), (3, vI x3), (4, vI 0)]) dX12_ordered_13 (Nat.le_of_ble_eq_true rfl) [1, 2, 3, 4, 0] rfl ?_
        refine ea_iconst (pc := 15) dX12_ordered_15 (v := 0) rfl ?_
        refine ea_istore (pc := 16) (lv' := [(0, vR (some (b0 + 0))), (1, vI x1), (2, vI x2), (3, vI x3), (4, vI 0), (5, vI 0)]) dX12_ordered_16 (Nat.le_of_ble_eq_true rfl) [1, 2, 3, 4, 5, 0] rfl ?_
        exact ((ih 18 (x1 : Int32) (x2 : Int32) (x3 : Int32) (0 : Int32) (0 : Int32) h _ _ E hs).2.2 rfl)
    intro el
    subst el
    have E := (if_neg (by decide)).symm.trans E
    have E := (if_neg (by decide)).symm.trans E
    have E := (if_pos rfl).symm.trans E
    refine ea_iload (pc := 18) dX12_ordered_18 5 rfl ?_
    refine ea_aload_n (pc := 20) dX12_ordered_20 rfl 0 rfl ?_
    refine ea_getR (pc := 21) dX12_ordered_21 ec_12 (k := 97) (Nat.le_of_ble_eq_true rfl) rfl (Or.inl ew_1442) (hs.1 0 (by decide)).1 (hs.1 0 (by decide)).2.1 (hs.2 0 97 rfl) ?_
    refine ea_iload_n (pc := 24) dX12_ordered_24 rfl 1 rfl ?_
    obtain ⟨z3, E⟩ := gd_some E
    refine ea_iald (pc := 25) dX12_ordered_25 (hs.1 70 (by decide)).1 (hs.1 70 (by decide)).2.1 (ea_vpl (hs.1 70 (by decide)).2.2 z3) ?_
    refine ea_icmp_ge (pc := 26) (tgt := 108) dX12_ordered_26 rfl (fun c12 => ?_) (fun c12 => ?_)
    · have E := (if_pos c12).symm.trans E
      refine ea_iload (pc := 108) dX12_ordered_108 4 rfl ?_
      refine ea_iload_n (pc := 110) dX12_ordered_110 rfl 2 rfl ?_
      refine ea_icmp_ne (pc := 111) (tgt := 120) dX12_ordered_111 rfl (fun c4 => ?_) (fun c4 => ?_)
      · have E := (if_neg c4).symm.trans E
        refine ea_iinc (pc := 120) (v := 1) (lv' := [(0, vR (some (b0 + 0))), (1, vI x1), (2, vI x2), (3, vI (x3 + (1 : Int32)))]) dX12_ordered_120 3 rfl rfl (Nat.le_of_ble_eq_true rfl) [1, 2, 3, 0] rfl ?_
        refine ea_goto (pc := 123) (tgt := 2) dX12_ordered_123 rfl ?_
        exact ((ih 2 (x1 : Int32) (x2 : Int32) ((x3 + (1 : Int32)) : Int32) 0 0 h _ _ E hs).2.1 rfl)
      · have E := (if_pos c4).symm.trans E
        refine ea_iconst (pc := 114) dX12_ordered_114 (v := 4) rfl ?_
        refine ea_iload_n (pc := 115) dX12_ordered_115 rfl 1 rfl ?_
        refine ea_imul (pc := 116) dX12_ordered_116 ?_
        refine ea_iload_n (pc := 117) dX12_ordered_117 rfl 3 rfl ?_
        refine ea_iadd (pc := 118) dX12_ordered_118 ?_
        exact ea_iretO (pc := 119) dX12_ordered_119 rfl rfl E
    · have E := (if_neg c12).symm.trans E
      refine ea_aload_n (pc := 29) dX12_ordered_29 rfl 0 rfl ?_
      refine ea_getR (pc := 30) dX12_ordered_30 ec_12 (k := 99) (Nat.le_of_ble_eq_true rfl) rfl (Or.inl ew_1444) (hs.1 0 (by decide)).1 (hs.1 0 (by decide)).2.1 (hs.2 0 99 rfl) ?_
      refine ea_iconst (pc := 33) dX12_ordered_33 (v := 4) rfl ?_
      refine ea_iload_n (pc := 34) dX12_ordered_34 rfl 1 rfl ?_
      refine ea_imul (pc := 35) dX12_ordered_35 ?_
      refine ea_iload (pc := 36) dX12_ordered_36 5 rfl ?_
      refine ea_iadd (pc := 38) dX12_ordered_38 ?_
      obtain ⟨z5, E⟩ := gd_some E
      refine ea_iald (pc := 39) dX12_ordered_39 (hs.1 72 (by decide)).1 (hs.1 72 (by decide)).2.1 (ea_vpl (hs.1 72 (by decide)).2.2 z5) ?_
      refine ea_istore (pc := 40) (lv' := [(0, vR (some (b0 + 0))), (1, vI x1), (2, vI x2), (3, vI x3), (4, vI x4), (5, vI x5), (6, vI (ea_i h (b0 + 72) (Int32.toNatClampNeg (((4 : Int32) * x1) + x5))))]) dX12_ordered_40 (Nat.le_of_ble_eq_true rfl) [1, 2, 3, 4, 5, 6, 0] rfl ?_
      refine ea_aload_n (pc := 42) dX12_ordered_42 rfl 0 rfl ?_
      refine ea_getR (pc := 43) dX12_ordered_43 ec_12 (k := 99) (Nat.le_of_ble_eq_true rfl) rfl (Or.inl ew_1444) (hs.1 0 (by decide)).1 (hs.1 0 (by decide)).2.1 (hs.2 0 99 rfl) ?_
      refine ea_iconst (pc := 46) dX12_ordered_46 (v := 4) rfl ?_
      refine ea_iload_n (pc := 47) dX12_ordered_47 rfl 1 rfl ?_
      refine ea_imul (pc := 48) dX12_ordered_48 ?_
      refine ea_iload_n (pc := 49) dX12_ordered_49 rfl 3 rfl ?_
      refine ea_iadd (pc := 50) dX12_ordered_50 ?_
      obtain ⟨z6, E⟩ := gd_some E
      refine ea_iald (pc := 51) dX12_ordered_51 (hs.1 72 (by decide)).1 (hs.1 72 (by decide)).2.1 (ea_vpl (hs.1 72 (by decide)).2.2 z6) ?_
      refine ea_istore (pc := 52) (lv' := [(0, vR (some (b0 + 0))), (1, vI x1), (2, vI x2), (3, vI x3), (4, vI x4), (5, vI x5), (6, vI (ea_i h (b0 + 72) (Int32.toNatClampNeg (((4 : Int32) * x1) + x5)))), (7, vI (ea_i h (b0 + 72) (Int32.toNatClampNeg (((4 : Int32) * x1) + x3))))]) dX12_ordered_52 (Nat.le_of_ble_eq_true rfl) [1, 2, 3, 4, 5, 6, 7, 0] rfl ?_
      refine ea_iload (pc := 54) dX12_ordered_54 4 rfl ?_
      refine ea_iload (pc := 56) dX12_ordered_56 6 rfl ?_
      refine ea_iload (pc := 58) dX12_ordered_58 7 rfl ?_
      refine ea_icmp_gt (pc := 60) (tgt := 94) dX12_ordered_60 rfl (fun c11 => ?_) (fun c11 => ?_)
      · have E := (if_pos c11).symm.trans E
        refine ea_iconst (pc := 94) dX12_ordered_94 (v := 1) rfl ?_
        refine ea_goto (pc := 95) (tgt := 99) dX12_ordered_95 rfl ?_
        refine ea_iadd (pc := 99) dX12_ordered_99 ?_
        refine ea_istore (pc := 100) (lv' := [(0, vR (some (b0 + 0))), (1, vI x1), (2, vI x2), (3, vI x3), (4, vI (x4 + (1 : Int32))), (5, vI x5)]) dX12_ordered_100 (Nat.le_of_ble_eq_true rfl) [1, 2, 3, 4, 0, 5] rfl ?_
        refine ea_iinc (pc := 102) (v := 1) (lv' := [(0, vR (some (b0 + 0))), (1, vI x1), (2, vI x2), (3, vI x3), (4, vI (x4 + (1 : Int32))), (5, vI (x5 + (1 : Int32)))]) dX12_ordered_102 5 rfl rfl (Nat.le_of_ble_eq_true rfl) [1, 2, 3, 4, 5, 0] rfl ?_
        refine ea_goto (pc := 105) (tgt := 18) dX12_ordered_105 rfl ?_
        exact ((ih 18 (x1 : Int32) (x2 : Int32) (x3 : Int32) ((x4 + (1 : Int32)) : Int32) ((x5 + (1 : Int32)) : Int32) h _ _ E hs).2.2 rfl)
      · have E := (if_neg c11).symm.trans E
        refine ea_iload (pc := 63) dX12_ordered_63 6 rfl ?_
        refine ea_iload (pc := 65) dX12_ordered_65 7 rfl ?_
        refine ea_icmp_ne (pc := 67) (tgt := 98) dX12_ordered_67 rfl (fun c10 => ?_) (fun c10 => ?_)
        · have E := (if_neg c10).symm.trans E
          refine ea_iconst (pc := 98) dX12_ordered_98 (v := 0) rfl ?_
          refine ea_iadd (pc := 99) dX12_ordered_99 ?_
          refine ea_istore (pc := 100) (lv' := [(0, vR (some (b0 + 0))), (1, vI x1), (2, vI x2), (3, vI x3), (4, vI (x4 + (0 : Int32))), (5, vI x5)]) dX12_ordered_100 (Nat.le_of_ble_eq_true rfl) [1, 2, 3, 4, 0, 5] rfl ?_
          refine ea_iinc (pc := 102) (v := 1) (lv' := [(0, vR (some (b0 + 0))), (1, vI x1), (2, vI x2), (3, vI x3), (4, vI (x4 + (0 : Int32))), (5, vI (x5 + (1 : Int32)))]) dX12_ordered_102 5 rfl rfl (Nat.le_of_ble_eq_true rfl) [1, 2, 3, 4, 5, 0] rfl ?_
          refine ea_goto (pc := 105) (tgt := 18) dX12_ordered_105 rfl ?_
          exact ((ih 18 (x1 : Int32) (x2 : Int32) (x3 : Int32) ((x4 + (0 : Int32)) : Int32) ((x5 + (1 : Int32)) : Int32) h _ _ E hs).2.2 rfl)
        · have E := (if_pos c10).symm.trans E
          refine ea_aload_n (pc := 70) dX12_ordered_70 rfl 0 rfl ?_
          refine ea_getR (pc := 71) dX12_ordered_71 ec_12 (k := 98) (Nat.le_of_ble_eq_true rfl) rfl (Or.inl ew_1443) (hs.1 0 (by decide)).1 (hs.1 0 (by decide)).2.1 (hs.2 0 98 rfl) ?_
          refine ea_iconst (pc := 74) dX12_ordered_74 (v := 4) rfl ?_
          refine ea_iload_n (pc := 75) dX12_ordered_75 rfl 1 rfl ?_
          refine ea_imul (pc := 76) dX12_ordered_76 ?_
          refine ea_iload (pc := 77) dX12_ordered_77 5 rfl ?_
          refine ea_iadd (pc := 79) dX12_ordered_79 ?_
          obtain ⟨z7, E⟩ := gd_some E
          refine ea_iald (pc := 80) dX12_ordered_80 (hs.1 71 (by decide)).1 (hs.1 71 (by decide)).2.1 (ea_vpl (hs.1 71 (by decide)).2.2 z7) ?_
          refine ea_aload_n (pc := 81) dX12_ordered_81 rfl 0 rfl ?_
          refine ea_getR (pc := 82) dX12_ordered_82 ec_12 (k := 98) (Nat.le_of_ble_eq_true rfl) rfl (Or.inl ew_1443) (hs.1 0 (by decide)).1 (hs.1 0 (by decide)).2.1 (hs.2 0 98 rfl) ?_
          refine ea_iconst (pc := 85) dX12_ordered_85 (v := 4) rfl ?_
          refine ea_iload_n (pc := 86) dX12_ordered_86 rfl 1 rfl ?_
          refine ea_imul (pc := 87) dX12_ordered_87 ?_
          refine ea_iload_n (pc := 88) dX12_ordered_88 rfl 3 rfl ?_
          refine ea_iadd (pc := 89) dX12_ordered_89 ?_
          obtain ⟨z8, E⟩ := gd_some E
          refine ea_iald (pc := 90) dX12_ordered_90 (hs.1 71 (by decide)).1 (hs.1 71 (by decide)).2.1 (ea_vpl (hs.1 71 (by decide)).2.2 z8) ?_
          refine ea_icmp_ge (pc := 91) (tgt := 98) dX12_ordered_91 rfl (fun c9 => ?_) (fun c9 => ?_)
          · have E := (if_pos c9).symm.trans E
            refine ea_iconst (pc := 98) dX12_ordered_98 (v := 0) rfl ?_
            refine ea_iadd (pc := 99) dX12_ordered_99 ?_
            refine ea_istore (pc := 100) (lv' := [(0, vR (some (b0 + 0))), (1, vI x1), (2, vI x2), (3, vI x3), (4, vI (x4 + (0 : Int32))), (5, vI x5)]) dX12_ordered_100 (Nat.le_of_ble_eq_true rfl) [1, 2, 3, 4, 0, 5] rfl ?_
            refine ea_iinc (pc := 102) (v := 1) (lv' := [(0, vR (some (b0 + 0))), (1, vI x1), (2, vI x2), (3, vI x3), (4, vI (x4 + (0 : Int32))), (5, vI (x5 + (1 : Int32)))]) dX12_ordered_102 5 rfl rfl (Nat.le_of_ble_eq_true rfl) [1, 2, 3, 4, 5, 0] rfl ?_
            refine ea_goto (pc := 105) (tgt := 18) dX12_ordered_105 rfl ?_
            exact ((ih 18 (x1 : Int32) (x2 : Int32) (x3 : Int32) ((x4 + (0 : Int32)) : Int32) ((x5 + (1 : Int32)) : Int32) h _ _ E hs).2.2 rfl)
          · have E := (if_neg c9).symm.trans E
            refine ea_iconst (pc := 94) dX12_ordered_94 (v := 1) rfl ?_
            refine ea_goto (pc := 95) (tgt := 99) dX12_ordered_95 rfl ?_
            refine ea_iadd (pc := 99) dX12_ordered_99 ?_
            refine ea_istore (pc := 100) (lv' := [(0, vR (some (b0 + 0))), (1, vI x1), (2, vI x2), (3, vI x3), (4, vI (x4 + (1 : Int32))), (5, vI x5)]) dX12_ordered_100 (Nat.le_of_ble_eq_true rfl) [1, 2, 3, 4, 0, 5] rfl ?_
            refine ea_iinc (pc := 102) (v := 1) (lv' := [(0, vR (some (b0 + 0))), (1, vI x1), (2, vI x2), (3, vI x3), (4, vI (x4 + (1 : Int32))), (5, vI (x5 + (1 : Int32)))]) dX12_ordered_102 5 rfl rfl (Nat.le_of_ble_eq_true rfl) [1, 2, 3, 4, 5, 0] rfl ?_
            refine ea_goto (pc := 105) (tgt := 18) dX12_ordered_105 rfl ?_
            exact ((ih 18 (x1 : Int32) (x2 : Int32) (x3 : Int32) ((x4 + (1 : Int32)) : Int32) ((x5 + (1 : Int32)) : Int32) h _ _ E hs).2.2 rfl)
noncomputable def qX12_ordered (b0 : Nat) (x1 : Int32) (x2 : Int32) (h : ea_H) : Option (Int32 × ea_H) := gX12_ordered b0 1000000000 0 x1 x2 0 0 0 h
def okX12_ordered (b0 : Nat) (x1 : Int32) (x2 : Int32) (h : ea_H) : Prop := ∃ x, qX12_ordered b0 x1 x2 h = some x
noncomputable def vX12_ordered (b0 : Nat) (x1 : Int32) (x2 : Int32) (h : ea_H) : Int32 := ((qX12_ordered b0 x1 x2 h).getD (0, h)).1
noncomputable def wX12_ordered (b0 : Nat) (x1 : Int32) (x2 : Int32) (h : ea_H) : ea_H := ((qX12_ordered b0 x1 x2 h).getD (0, h)).2
theorem sX12_ordered {d : Nat} {b0 : Nat} {x1 : Int32} {x2 : Int32} {h : ea_H} (hd : 1 ≤ d) (hs : ShM b0 h) (K : okX12_ordered b0 x1 x2 h) : ea_Met mX12_ordered d [vR (some (b0 + 0)), vI x1, vI x2] h (some (vI (vX12_ordered b0 x1 x2 h))) (wX12_ordered b0 x1 x2 h) := by
  obtain ⟨⟨x, y⟩, K⟩ := K
  unfold wX12_ordered vX12_ordered
  rw [K]
  unfold qX12_ordered at K
  exact ea_enter rfl (Nat.le_of_ble_eq_true rfl) ((tX12_ordered hd 1000000000 0 x1 x2 0 0 0 h x y K hs).1 rfl)
theorem zX12_ordered {b0 : Nat} : ∀ (f lbl : Nat) (x1 : Int32) (x2 : Int32) (x3 : Int32) (x4 : Int32) (x5 : Int32) (h : ea_H) (r : Int32) (h' : ea_H), gX12_ordered b0 f lbl x1 x2 x3 x4 x5 h = some (r, h') → ShM b0 h → ShM b0 h' := by
  intro f
  induction f with
  | zero => intro lbl x1 x2 x3 x4 x5 h r h' E; cases E
  | succ f ih =>
    intro lbl x1 x2 x3 x4 x5 h r h' E hs
    unfold gX12_ordered at E
    by_cases el0 : lbl = 0
    · have E := (if_pos el0).symm.trans E
      exact ih 2 (x1 : Int32) (x2 : Int32) (0 : Int32) 0 0 h _ _ E hs
    have E := (if_neg el0).symm.trans E
    by_cases el1 : lbl = 2
    · have E := (if_pos el1).symm.trans E
      obtain ⟨z1, E⟩ := gd_some E
      by_cases c2 : (ea_i h (b0 + 70) (Int32.toNatClampNeg x1)) ≤ x3
      · have E := (if_pos c2).symm.trans E
        exact ea_shO E hs
      have E := (if_neg c2).symm.trans E
      exact ih 18 (x1 : Int32) (x2 : Int32) (x3 : Int32) (0 : Int32) (0 : Int32) h _ _ E hs
    have E := (if_neg el1).symm.trans E
    by_cases el2 : lbl = 18
    · have E := (if_pos el2).symm.trans E
      obtain ⟨z3, E⟩ := gd_some E
      by_cases c12 : (ea_i h (b0 + 70) (Int32.toNatClampNeg x1)) ≤ x5
      · have E := (if_pos c12).symm.trans E
        by_cases c4 : x4 = x2
        · have E := (if_pos c4).symm.trans E
          exact ea_shO E hs
        have E := (if_neg c4).symm.trans E
        exact ih 2 (x1 : Int32) (x2 : Int32) ((x3 + (1 : Int32)) : Int32) 0 0 h _ _ E hs
      have E := (if_neg c12).symm.trans E
      obtain ⟨z5, E⟩ := gd_some E
      obtain ⟨z6, E⟩ := gd_some E
      by_cases c11 : (ea_i h (b0 + 72) (Int32.toNatClampNeg (((4 : Int32) * x1) + x3))) < (ea_i h (b0 + 72) (Int32.toNatClampNeg (((4 : Int32) * x1) + x5)))
      · have E := (if_pos c11).symm.trans E
        exact ih 18 (x1 : Int32) (x2 : Int32) (x3 : Int32) ((x4 + (1 : Int32)) : Int32) ((x5 + (1 : Int32)) : Int32) h _ _ E hs
      have E := (if_neg c11).symm.trans E
      by_cases c10 : (ea_i h (b0 + 72) (Int32.toNatClampNeg (((4 : Int32) * x1) + x5))) = (ea_i h (b0 + 72) (Int32.toNatClampNeg (((4 : Int32) * x1) + x3)))
      · have E := (if_pos c10).symm.trans E
        obtain ⟨z7, E⟩ := gd_some E
        obtain ⟨z8, E⟩ := gd_some E
        by_cases c9 : (ea_i h (b0 + 71) (Int32.toNatClampNeg (((4 : Int32) * x1) + x3))) ≤ (ea_i h (b0 + 71) (Int32.toNatClampNeg (((4 : Int32) * x1) + x5)))
        · have E := (if_pos c9).symm.trans E
          exact ih 18 (x1 : Int32) (x2 : Int32) (x3 : Int32) ((x4 + (0 : Int32)) : Int32) ((x5 + (1 : Int32)) : Int32) h _ _ E hs
        have E := (if_neg c9).symm.trans E
        exact ih 18 (x1 : Int32) (x2 : Int32) (x3 : Int32) ((x4 + (1 : Int32)) : Int32) ((x5 + (1 : Int32)) : Int32) h _ _ E hs
      have E := (if_neg c10).symm.trans E
      exact ih 18 (x1 : Int32) (x2 : Int32) (x3 : Int32) ((x4 + (0 : Int32)) : Int32) ((x5 + (1 : Int32)) : Int32) h _ _ E hs
    have E := (if_neg el2).symm.trans E
    cases E
theorem shX12_ordered {b0 : Nat} {x1 : Int32} {x2 : Int32} {h : ea_H} (hs : ShM b0 h) : ShM b0 (wX12_ordered b0 x1 x2 h) := by
  unfold wX12_ordered
  cases K : qX12_ordered b0 x1 x2 h with
  | none => exact hs
  | some x => obtain ⟨x, y⟩ := x; unfold qX12_ordered at K; exact zX12_ordered _ _ _ _ _ _ _ _ _ _ K hs
noncomputable def gX12_common (b0 : Nat) : Nat → Nat → Int64 → Int64 → Int64 → Int64 → ea_H → Option (Int64 × ea_H)
  | 0, _, _, _, _, _, _ => none
  | f + 1, lbl, y0, y2, y4, y6, h =>
    if lbl = 0 then (gX12_common b0 f 6 0 0 (y0 : Int64) (y2 : Int64) h) else
    if lbl = 6 then (if (lg_cmp y6 (0 : Int64)) = (0 : Int32) then (some (y4, h)) else (gd ((¬ y6 = 0)) (gX12_common b0 f 6 0 0 (y6 : Int64) ((y4 - y4 / y6 * y6) : Int64) h))) else none
theorem tX12_common {d : Nat} {b0 : Nat} {h0 : ea_H} (hd : 1 ≤ d) : ∀ (f lbl : Nat) (y0 : Int64) (y2 : Int64) (y4 : Int64) (y6 : Int64) (h : ea_H) (r : Int64) (h' : ea_H), gX12_common b0 f lbl y0 y2 y4 y6 h = some (r, h') → ShM b0 h → (lbl = 0 → ea_W mX12_common d h0 (some (vJ r)) h' 0 [(0, vJ y0), (2, vJ y2)] [] h) ∧ (lbl = 6 → ea_W mX12_common d h0 (some (vJ r)) h' 6 [(4, vJ y4), (6, vJ y6)] [] h) := by
  intro f
  induction f with
  | zero => intro lbl y0 y2 y4 y6 h r h' E; cases E
  | succ f ih =>
    intro lbl y0 y2 y4 y6 h r h' E hs
    unfold gX12_common at E
    refine ⟨?_, ?_⟩
    · intro el
      subst el
      have E := (if_pos rfl).symm.trans E
      refine ea_lload_n (pc := 0) dX12_common_0 rfl 0 rfl ?_
      refine ea_lstore (pc := 1) (lv' := [(2, vJ y2), (4, vJ y0)]) dX12_common_1 (Nat.le_of_ble_eq_true rfl) [2, 0] rfl ?_
      refine ea_lload_n (pc := 3) dX12_common_3 rfl 0 rfl ?_
      refine ea_lstore (pc := 4) (lv' := [(4, vJ y0), (6, vJ y2)]) dX12_common_4 (Nat.le_of_ble_eq_true rfl) [2, 0] rfl ?_
      exact ((ih 6 0 0 (y0 : Int64) (y2 : Int64) h _ _ E hs).2 rfl)
    intro el
    subst el
    have E := (if_neg (by decide)).symm.trans E
    have E := (if_pos rfl).symm.trans E
    refine ea_lload (pc := 6) dX12_common_6 1 rfl ?_
    refine ea_lconst (pc := 8) dX12_common_8 (v := 0) rfl ?_
    refine ea_lcmp (pc := 9) dX12_common_9 ?_
    refine ea_if_eq (pc := 10) (tgt := 31) dX12_common_10 rfl (fun c2 => ?_) (fun c2 => ?_)
    · have E := (if_pos c2).symm.trans E
      refine ea_lload (pc := 31) dX12_common_31 0 rfl ?_
      exact ea_lretO (pc := 33) dX12_common_33 rfl E
    · have E := (if_neg c2).symm.trans E
      refine ea_lload (pc := 13) dX12_common_13 0 rfl ?_
      refine ea_lload (pc := 15) dX12_common_15 1 rfl ?_
      obtain ⟨z1, E⟩ := gd_some E
      refine ea_lrem (pc := 17) dX12_common_17 z1 ?_
      refine ea_lstore (pc := 18) (lv' := [(6, vJ y6), (8, vJ (y4 - y4 / y6 * y6))]) dX12_common_18 (Nat.le_of_ble_eq_true rfl) [2, 0] rfl ?_
      refine ea_lload (pc := 20) dX12_common_20 0 rfl ?_
      refine ea_lstore (pc := 22) (lv' := [(4, vJ y6), (8, vJ (y4 - y4 / y6 * y6))]) dX12_common_22 (Nat.le_of_ble_eq_true rfl) [0, 2] rfl ?_
      refine ea_lload (pc := 24) dX12_common_24 1 rfl ?_
      refine ea_lstore (pc := 26) (lv' := [(4, vJ y6), (6, vJ (y4 - y4 / y6 * y6))]) dX12_common_26 (Nat.le_of_ble_eq_true rfl) [1, 0] rfl ?_
      refine ea_goto (pc := 28) (tgt := 6) dX12_common_28 rfl ?_
      exact ((ih 6 0 0 (y6 : Int64) ((y4 - y4 / y6 * y6) : Int64) h _ _ E hs).2 rfl)
noncomputable def qX12_common (b0 : Nat) (y0 : Int64) (y2 : Int64) (h : ea_H) : Option (Int64 × ea_H) := gX12_common b0 1000000000 0 y0 y2 0 0 h
def okX12_common (b0 : Nat) (y0 : Int64) (y2 : Int64) (h : ea_H) : Prop := ∃ x, qX12_common b0 y0 y2 h = some x
noncomputable def vX12_common (b0 : Nat) (y0 : Int64) (y2 : Int64) (h : ea_H) : Int64 := ((qX12_common b0 y0 y2 h).getD (0, h)).1
noncomputable def wX12_common (b0 : Nat) (y0 : Int64) (y2 : Int64) (h : ea_H) : ea_H := ((qX12_common b0 y0 y2 h).getD (0, h)).2
theorem sX12_common {d : Nat} {b0 : Nat} {y0 : Int64} {y2 : Int64} {h : ea_H} (hd : 1 ≤ d) (hs : ShM b0 h) (K : okX12_common b0 y0 y2 h) : ea_Met mX12_common d [vJ y0, vJ y2] h (some (vJ (vX12_common b0 y0 y2 h))) (wX12_common b0 y0 y2 h) := by
  obtain ⟨⟨x, y⟩, K⟩ := K
  unfold wX12_common vX12_common
  rw [K]
  unfold qX12_common at K
  exact ea_enter rfl (Nat.le_of_ble_eq_true rfl) ((tX12_common hd 1000000000 0 y0 y2 0 0 h x y K hs).1 rfl)
theorem zX12_common {b0 : Nat} : ∀ (f lbl : Nat) (y0 : Int64) (y2 : Int64) (y4 : Int64) (y6 : Int64) (h : ea_H) (r : Int64) (h' : ea_H), gX12_common b0 f lbl y0 y2 y4 y6 h = some (r, h') → ShM b0 h → ShM b0 h' := by
  intro f
  induction f with
  | zero => intro lbl y0 y2 y4 y6 h r h' E; cases E
  | succ f ih =>
    intro lbl y0 y2 y4 y6 h r h' E hs
    unfold gX12_common at E
    by_cases el0 : lbl = 0
    · have E := (if_pos el0).symm.trans E
      exact ih 6 0 0 (y0 : Int64) (y2 : Int64) h _ _ E hs
    have E := (if_neg el0).symm.trans E
    by_cases el1 : lbl = 6
    · have E := (if_pos el1).symm.trans E
      by_cases c2 : (lg_cmp y6 (0 : Int64)) = (0 : Int32)
      · have E := (if_pos c2).symm.trans E
        exact ea_shO E hs
      have E := (if_neg c2).symm.trans E
      obtain ⟨z1, E⟩ := gd_some E
      exact ih 6 0 0 (y6 : Int64) ((y4 - y4 / y6 * y6) : Int64) h _ _ E hs
    have E := (if_neg el1).symm.trans E
    cases E
theorem shX12_common {b0 : Nat} {y0 : Int64} {y2 : Int64} {h : ea_H} (hs : ShM b0 h) : ShM b0 (wX12_common b0 y0 y2 h) := by
  unfold wX12_common
  cases K : qX12_common b0 y0 y2 h with
  | none => exact hs
  | some x => obtain ⟨x, y⟩ := x; unfold qX12_common at K; exact zX12_common _ _ _ _ _ _ _ _ _ K hs
noncomputable def gX12_order (b0 : Nat) : Nat → Nat → Int32 → Int32 → Int32 → Int64 → Int64 → ea_H → Option (Int64 × ea_H)
  | 0, _, _, _, _, _, _, _ => none
  | f + 1, lbl, x1, x2, x7, y3, y5, h =>
    if lbl = 0 then (if (vX12_isLetterOf b0 (x1 : Int32) h) = (0 : Int32) then (some (((-1) : Int64), h)) else (if x2 = (0 : Int32) then (gd (vp_in x1 120) (some ((Int32.toInt64 (ea_i h (b0 + 70) (Int32.toNatClampNeg x1))), h))) else (if x2 = (1 : Int32) then (gX12_order b0 f 34 (x1 : Int32) (x2 : Int32) 0 0 0 h) else (if x2 = (2 : Int32) then (gX12_order b0 f 34 (x1 : Int32) (x2 : Int32) 0 0 0 h) else (gd (vp_in x1 120) (if (vX12_isIn (x2 : Int32) (10 : Int32) (((9 : Int32) + (ea_i h (b0 + 70) (Int32.toNatClampNeg x1))) : Int32) h) = (0 : Int32) then (gd (vp_in x1 120) (if (vX12_isIn (x2 : Int32) (20 : Int32) (((19 : Int32) + (ea_i h (b0 + 70) (Int32.toNatClampNeg x1))) : Int32) h) = (0 : Int32) then (some (((-1) : Int64), h)) else (gd ((okX12_ordered b0 (x1 : Int32) ((x2 - (20 : Int32)) : Int32) h)) (gd (vp_in (vX12_ordered b0 (x1 : Int32) ((x2 - (20 : Int32)) : Int32) h) 480) (some ((Int32.toInt64 (ea_i (wX12_ordered b0 (x1 : Int32) ((x2 - (20 : Int32)) : Int32) h) (b0 + 72) (Int32.toNatClampNeg (vX12_ordered b0 (x1 : Int32) ((x2 - (20 : Int32)) : Int32) h)))), (wX12_ordered b0 (x1 : Int32) ((x2 - (20 : Int32)) : Int32) h))))))) else (gd ((okX12_ordered b0 (x1 : Int32) ((x2 - (10 : Int32)) : Int32) h)) (gd (vp_in (vX12_ordered b0 (x1 : Int32) ((x2 - (10 : Int32)) : Int32) h) 480) (some ((Int32.toInt64 (ea_i (wX12_ordered b0 (x1 : Int32) ((x2 - (10 : Int32)) : Int32) h) (b0 + 71) (Int32.toNatClampNeg (vX12_ordered b0 (x1 : Int32) ((x2 - (10 : Int32)) : Int32) h)))), (wX12_ordered b0 (x1 : Int32) ((x2 - (10 : Int32)) : Int32) h))))))))))) else
    if lbl = 34 then (gd (vp_in x1 120) (if (ea_i h (b0 + 70) (Int32.toNatClampNeg x1)) = (0 : Int32) then (some (((-1) : Int64), h)) else (gX12_order b0 f 55 (x1 : Int32) (x2 : Int32) (0 : Int32) (1 : Int64) (1 : Int64) h))) else
    if lbl = 55 then (gd (vp_in x1 120) (if (ea_i h (b0 + 70) (Int32.toNatClampNeg x1)) ≤ x7 then (gd ((okX12_common b0 ((y3 - y5) : Int64) (y3 : Int64) h)) (if x2 = (1 : Int32) then (gd ((¬ (vX12_common b0 ((y3 - y5) : Int64) (y3 : Int64) h) = 0)) (some (((y3 - y5) / (vX12_common b0 ((y3 - y5) : Int64) (y3 : Int64) h)), (wX12_common b0 ((y3 - y5) : Int64) (y3 : Int64) h)))) else (gd ((¬ (vX12_common b0 ((y3 - y5) : Int64) (y3 : Int64) h) = 0)) (some ((y3 / (vX12_common b0 ((y3 - y5) : Int64) (y3 : Int64) h)), (wX12_common b0 ((y3 - y5) : Int64) (y3 : Int64) h)))))) else (gd (vp_in (((4 : Int32) * x1) + x7) 480) (gX12_order b0 f 55 (x1 : Int32) (x2 : Int32) ((x7 + (1 : Int32)) : Int32) ((y3 * (100 : Int64)) : Int64) ((y5 * (Int32.toInt64 ((100 : Int32) - (ea_i h (b0 + 72) (Int32.toNatClampNeg (((4 : Int32) * x1) + x7)))))) : Int64) h)))) else none
theorem tX12_order {d : Nat} {b0 : Nat} {h0 : ea_H} (hd : 3 ≤ d) : ∀ (f lbl : Nat) (x1 : Int32) (x2 : Int32) (x7 : Int32) (y3 : Int64) (y5 : Int64) (h : ea_H) (r : Int64) (h' : ea_H), gX12_order b0 f lbl x1 x2 x7 y3 y5 h = some (r, h') → ShM b0 h → (lbl = 0 → ea_W mX12_order d h0 (some (vJ r)) h' 0 [(0, vR (some (b0 + 0))), (1, vI x1), (2, vI x2)] [] h) ∧ (lbl = 34 → ea_W mX12_order d h0 (some (vJ r)) h' 34 [(0, vR (some (b0 + 0))), (1, vI x1), (2, vI x2)] [] h) ∧ (lbl = 55 → ea_W mX12_order d h0 (some (vJ r)) h' 55 [(0, vR (some (b0 + 0))), (1, vI x1), (2, vI x2), (3, vJ y3), (5, vJ y5), (7, vI x7)] [] h) := by
  intro f
  induction f with
  | zero => intro lbl x1 x2 x7 y3 y5 h r h' E; cases E
  | succ f ih =>
    intro lbl x1 x2 x7 y3 y5 h r h' E hs
    unfold gX12_order at E
    refine ⟨?_, ?_⟩
    · intro el
      subst el
      have E := (if_pos rfl).symm.trans E
      refine ea_aload_n (pc := 0) dX12_order_0 rfl 0 rfl ?_
      refine ea_iload_n (pc := 1) dX12_order_1 rfl 1 rfl ?_
      refine ea_callV (pc := 2) (d' := d - 1) (As := [vI x1]) (st := []) dX12_order_2 kX12_isLetterOf (sX12_isLetterOf (d := d - 1) (by omega) hs) (by omega) rfl (Nat.le_of_ble_eq_true rfl) ew_2019 ew_2021 ew_89 (ci := 12) rfl (by decide) (hs.1 0 (by decide)).1 (hs.1 0 (by decide)).2.1 ?_
      refine ea_if_ne (pc := 5) (tgt := 12) dX12_order_5 rfl (fun c18 => ?_) (fun c18 => ?_)
      · have E := (if_neg c18).symm.trans E
        refine ea_iload_n (pc := 12) dX12_order_12 rfl 2 rfl ?_
        refine ea_if_ne (pc := 13) (tgt := 24) dX12_order_13 rfl (fun c17 => ?_) (fun c17 => ?_)
        · have E := (if_neg c17).symm.trans E
          refine ea_iload_n (pc := 24) dX12_order_24 rfl 2 rfl ?_
          refine ea_iconst (pc := 25) dX12_order_25 (v := 1) rfl ?_
          refine ea_icmp_eq (pc := 26) (tgt := 34) dX12_order_26 rfl (fun c15 => ?_) (fun c15 => ?_)
          · have E := (if_pos c15).symm.trans E
            exact ((ih 34 (x1 : Int32) (x2 : Int32) 0 0 0 h _ _ E hs).2.1 rfl)
          · have E := (if_neg c15).symm.trans E
            refine ea_iload_n (pc := 29) dX12_order_29 rfl 2 rfl ?_
            refine ea_iconst (pc := 30) dX12_order_30 (v := 2) rfl ?_
            refine ea_icmp_ne (pc := 31) (tgt := 128) dX12_order_31 rfl (fun c14 => ?_) (fun c14 => ?_)
            · have E := (if_neg c14).symm.trans E
              refine ea_iload_n (pc := 128) dX12_order_128 rfl 2 rfl ?_
              refine ea_bipush (pc := 129) dX12_order_129 (v := 10) rfl ?_
              refine ea_bipush (pc := 131) dX12_order_131 (v := 9) rfl ?_
              refine ea_aload_n (pc := 133) dX12_order_133 rfl 0 rfl ?_
              refine ea_getR (pc := 134) dX12_order_134 ec_12 (k := 97) (Nat.le_of_ble_eq_true rfl) rfl (Or.inl ew_1442) (hs.1 0 (by decide)).1 (hs.1 0 (by decide)).2.1 (hs.2 0 97 rfl) ?_
              refine ea_iload_n (pc := 137) dX12_order_137 rfl 1 rfl ?_
              obtain ⟨z2, E⟩ := gd_some E
              refine ea_iald (pc := 138) dX12_order_138 (hs.1 70 (by decide)).1 (hs.1 70 (by decide)).2.1 (ea_vpl (hs.1 70 (by decide)).2.2 z2) ?_
              refine ea_iadd (pc := 139) dX12_order_139 ?_
              refine ea_callS (pc := 140) (d' := d - 1) (As := [vI x2, vI 10, vI ((9 : Int32) + (ea_i h (b0 + 70) (Int32.toNatClampNeg x1)))]) (st := []) dX12_order_140 kX12_isIn (sX12_isIn (d := d - 1) (by omega)) (by omega) rfl (Nat.le_of_ble_eq_true rfl) ew_1712 ew_1713 ?_
              refine ea_if_eq (pc := 143) (tgt := 162) dX12_order_143 rfl (fun c13 => ?_) (fun c13 => ?_)
              · have E := (if_pos c13).symm.trans E
                refine ea_iload_n (pc := 162) dX12_order_162 rfl 2 rfl ?_
                refine ea_bipush (pc := 163) dX12_order_163 (v := 20) rfl ?_
                refine ea_bipush (pc := 165) dX12_order_165 (v := 19) rfl ?_
                refine ea_aload_n (pc := 167) dX12_order_167 rfl 0 rfl ?_
                refine ea_getR (pc := 168) dX12_order_168 ec_12 (k := 97) (Nat.le_of_ble_eq_true rfl) rfl (Or.inl ew_1442) (hs.1 0 (by decide)).1 (hs.1 0 (by decide)).2.1 (hs.2 0 97 rfl) ?_
                refine ea_iload_n (pc := 171) dX12_order_171 rfl 1 rfl ?_
                obtain ⟨z4, E⟩ := gd_some E
                refine ea_iald (pc := 172) dX12_order_172 (hs.1 70 (by decide)).1 (hs.1 70 (by decide)).2.1 (ea_vpl (hs.1 70 (by decide)).2.2 z4) ?_
                refine ea_iadd (pc := 173) dX12_order_173 ?_
                refine ea_callS (pc := 174) (d' := d - 1) (As := [vI x2, vI 20, vI ((19 : Int32) + (ea_i h (b0 + 70) (Int32.toNatClampNeg x1)))]) (st := []) dX12_order_174 kX12_isIn (sX12_isIn (d := d - 1) (by omega)) (by omega) rfl (Nat.le_of_ble_eq_true rfl) ew_1712 ew_1713 ?_
                refine ea_if_eq (pc := 177) (tgt := 198) dX12_order_177 rfl (fun c9 => ?_) (fun c9 => ?_)
                · have E := (if_pos c9).symm.trans E
                  refine ea_ldc2 (pc := 198) dX12_order_198 ew_2118 ?_
                  exact ea_lretO (pc := 201) dX12_order_201 rfl E
                · have E := (if_neg c9).symm.trans E
                  refine ea_aload_n (pc := 180) dX12_order_180 rfl 0 rfl ?_
                  refine ea_getR (pc := 181) dX12_order_181 ec_12 (k := 99) (Nat.le_of_ble_eq_true rfl) rfl (Or.inl ew_1444) (hs.1 0 (by decide)).1 (hs.1 0 (by decide)).2.1 (hs.2 0 99 rfl) ?_
                  refine ea_aload_n (pc := 184) dX12_order_184 rfl 0 rfl ?_
                  refine ea_iload_n (pc := 185) dX12_order_185 rfl 1 rfl ?_
                  refine ea_iload_n (pc := 186) dX12_order_186 rfl 2 rfl ?_
                  refine ea_bipush (pc := 187) dX12_order_187 (v := 20) rfl ?_
                  refine ea_isub (pc := 189) dX12_order_189 ?_
                  obtain ⟨z6, E⟩ := gd_some E
                  refine ea_callV (pc := 190) (d' := d - 1) (As := [vI x1, vI (x2 - (20 : Int32))]) (st := [vR (some (b0 + 72))]) dX12_order_190 kX12_ordered (sX12_ordered (d := d - 1) (by omega) hs z6) (by omega) rfl (Nat.le_of_ble_eq_true rfl) ew_2123 ew_2125 ew_101 (ci := 12) rfl (by decide) (hs.1 0 (by decide)).1 (hs.1 0 (by decide)).2.1 ?_
                  have hs7 : ShM b0 (wX12_ordered b0 (x1 : Int32) ((x2 - (20 : Int32)) : Int32) h) := shX12_ordered hs
                  obtain ⟨z8, E⟩ := gd_some E
                  refine ea_iald (pc := 193) dX12_order_193 (hs7.1 72 (by decide)).1 (hs7.1 72 (by decide)).2.1 (ea_vpl (hs7.1 72 (by decide)).2.2 z8) ?_
                  refine ea_i2l (pc := 194) dX12_order_194 ?_
                  refine ea_goto (pc := 195) (tgt := 201) dX12_order_195 rfl ?_
                  exact ea_lretO (pc := 201) dX12_order_201 rfl E
              · have E := (if_neg c13).symm.trans E
                refine ea_aload_n (pc := 146) dX12_order_146 rfl 0 rfl ?_
                refine ea_getR (pc := 147) dX12_order_147 ec_12 (k := 98) (Nat.le_of_ble_eq_true rfl) rfl (Or.inl ew_1443) (hs.1 0 (by decide)).1 (hs.1 0 (by decide)).2.1 (hs.2 0 98 rfl) ?_
                refine ea_aload_n (pc := 150) dX12_order_150 rfl 0 rfl ?_
                refine ea_iload_n (pc := 151) dX12_order_151 rfl 1 rfl ?_
                refine ea_iload_n (pc := 152) dX12_order_152 rfl 2 rfl ?_
                refine ea_bipush (pc := 153) dX12_order_153 (v := 10) rfl ?_
                refine ea_isub (pc := 155) dX12_order_155 ?_
                obtain ⟨z10, E⟩ := gd_some E
                refine ea_callV (pc := 156) (d' := d - 1) (As := [vI x1, vI (x2 - (10 : Int32))]) (st := [vR (some (b0 + 71))]) dX12_order_156 kX12_ordered (sX12_ordered (d := d - 1) (by omega) hs z10) (by omega) rfl (Nat.le_of_ble_eq_true rfl) ew_2123 ew_2125 ew_101 (ci := 12) rfl (by decide) (hs.1 0 (by decide)).1 (hs.1 0 (by decide)).2.1 ?_
                have hs11 : ShM b0 (wX12_ordered b0 (x1 : Int32) ((x2 - (10 : Int32)) : Int32) h) := shX12_ordered hs
                obtain ⟨z12, E⟩ := gd_some E
                refine ea_iald (pc := 159) dX12_order_159 (hs11.1 71 (by decide)).1 (hs11.1 71 (by decide)).2.1 (ea_vpl (hs11.1 71 (by decide)).2.2 z12) ?_
                refine ea_i2l (pc := 160) dX12_order_160 ?_
                exact ea_lretO (pc := 161) dX12_order_161 rfl E
            · have E := (if_pos c14).symm.trans E
              exact ((ih 34 (x1 : Int32) (x2 : Int32) 0 0 0 h _ _ E hs).2.1 rfl)
        · have E := (if_pos c17).symm.trans E
          refine ea_aload_n (pc := 16) dX12_order_16 rfl 0 rfl ?_
          refine ea_getR (pc := 17) dX12_order_17 ec_12 (k := 97) (Nat.le_of_ble_eq_true rfl) rfl (Or.inl ew_1442) (hs.1 0 (by decide)).1 (hs.1 0 (by decide)).2.1 (hs.2 0 97 rfl) ?_
          refine ea_iload_n (pc := 20) dX12_order_20 rfl 1 rfl ?_
          obtain ⟨z16, E⟩ := gd_some E
          refine ea_iald (pc := 21) dX12_order_21 (hs.1 70 (by decide)).1 (hs.1 70 (by decide)).2.1 (ea_vpl (hs.1 70 (by decide)).2.2 z16) ?_
          refine ea_i2l (pc := 22) dX12_order_22 ?_
          exact ea_lretO (pc := 23) dX12_order_23 rfl E
      · have E := (if_pos c18).symm.trans E
        refine ea_ldc2 (pc := 8) dX12_order_8 ew_2118 ?_
        exact ea_lretO (pc := 11) dX12_order_11 rfl E
    refine ⟨?_, ?_⟩
    · intro el
      subst el
      have E := (if_neg (by decide)).symm.trans E
      have E := (if_pos rfl).symm.trans E
      refine ea_aload_n (pc := 34) dX12_order_34 rfl 0 rfl ?_
      refine ea_getR (pc := 35) dX12_order_35 ec_12 (k := 97) (Nat.le_of_ble_eq_true rfl) rfl (Or.inl ew_1442) (hs.1 0 (by decide)).1 (hs.1 0 (by decide)).2.1 (hs.2 0 97 rfl) ?_
      refine ea_iload_n (pc := 38) dX12_order_38 rfl 1 rfl ?_
      obtain ⟨z19, E⟩ := gd_some E
      refine ea_iald (pc := 39) dX12_order_39 (hs.1 70 (by decide)).1 (hs.1 70 (by decide)).2.1 (ea_vpl (hs.1 70 (by decide)).2.2 z19) ?_
      refine ea_if_ne (pc := 40) (tgt := 47) dX12_order_40 rfl (fun c20 => ?_) (fun c20 => ?_)
      · have E := (if_neg c20).symm.trans E
        refine ea_lconst (pc := 47) dX12_order_47 (v := 1) rfl ?_
        refine ea_lstore_n (pc := 48) (lv' := [(0, vR (some (b0 + 0))), (1, vI x1), (2, vI x2), (3, vJ 1)]) dX12_order_48 rfl (Nat.le_of_ble_eq_true rfl) [1, 2, 3, 0] rfl ?_
        refine ea_lconst (pc := 49) dX12_order_49 (v := 1) rfl ?_
        refine ea_lstore (pc := 50) (lv' := [(0, vR (some (b0 + 0))), (1, vI x1), (2, vI x2), (3, vJ 1), (5, vJ 1)]) dX12_order_50 (Nat.le_of_ble_eq_true rfl) [1, 2, 3, 4, 0] rfl ?_
        refine ea_iconst (pc := 52) dX12_order_52 (v := 0) rfl ?_
        refine ea_istore (pc := 53) (lv' := [(0, vR (some (b0 + 0))), (1, vI x1), (2, vI x2), (3, vJ 1), (5, vJ 1), (7, vI 0)]) dX12_order_53 (Nat.le_of_ble_eq_true rfl) [1, 2, 3, 4, 5, 0] rfl ?_
        exact ((ih 55 (x1 : Int32) (x2 : Int32) (0 : Int32) (1 : Int64) (1 : Int64) h _ _ E hs).2.2 rfl)
      · have E := (if_pos c20).symm.trans E
        refine ea_ldc2 (pc := 43) dX12_order_43 ew_2118 ?_
        exact ea_lretO (pc := 46) dX12_order_46 rfl E
    intro el
    subst el
    have E := (if_neg (by decide)).symm.trans E
    have E := (if_neg (by decide)).symm.trans E
    have E := (if_pos rfl).symm.trans E
    refine ea_iload (pc := 55) dX12_order_55 5 rfl ?_
    refine ea_aload_n (pc := 57) dX12_order_57 rfl 0 rfl ?_
    refine ea_getR (pc := 58) dX12_order_58 ec_12 (k := 97) (Nat.le_of_ble_eq_true rfl) rfl (Or.inl ew_1442) (hs.1 0 (by decide)).1 (hs.1 0 (by decide)).2.1 (hs.2 0 97 rfl) ?_
    refine ea_iload_n (pc := 61) dX12_order_61 rfl 1 rfl ?_
    obtain ⟨z21, E⟩ := gd_some E
    refine ea_iald (pc := 62) dX12_order_62 (hs.1 70 (by decide)).1 (hs.1 70 (by decide)).2.1 (ea_vpl (hs.1 70 (by decide)).2.2 z21) ?_
    refine ea_icmp_ge (pc := 63) (tgt := 98) dX12_order_63 rfl (fun c28 => ?_) (fun c28 => ?_)
    · have E := (if_pos c28).symm.trans E
      refine ea_lload_n (pc := 98) dX12_order_98 rfl 3 rfl ?_
      refine ea_lload (pc := 99) dX12_order_99 4 rfl ?_
      refine ea_lsub (pc := 101) dX12_order_101 ?_
      refine ea_lload_n (pc := 102) dX12_order_102 rfl 3 rfl ?_
      obtain ⟨z22, E⟩ := gd_some E
      refine ea_callS (pc := 103) (d' := d - 1) (As := [vJ (y3 - y5), vJ y3]) (st := []) dX12_order_103 kX12_common (sX12_common (d := d - 1) (by omega) hs z22) (by omega) rfl (Nat.le_of_ble_eq_true rfl) ew_2120 ew_2121 ?_
      have hs23 : ShM b0 (wX12_common b0 ((y3 - y5) : Int64) (y3 : Int64) h) := shX12_common hs
      refine ea_lstore (pc := 106) (lv' := [(2, vI x2), (3, vJ y3), (5, vJ y5), (7, vJ (vX12_common b0 ((y3 - y5) : Int64) (y3 : Int64) h))]) dX12_order_106 (Nat.le_of_ble_eq_true rfl) [3, 4, 5, 0] rfl ?_
      refine ea_iload_n (pc := 108) dX12_order_108 rfl 0 rfl ?_
      refine ea_iconst (pc := 109) dX12_order_109 (v := 1) rfl ?_
      refine ea_icmp_ne (pc := 110) (tgt := 123) dX12_order_110 rfl (fun c26 => ?_) (fun c26 => ?_)
      · have E := (if_neg c26).symm.trans E
        refine ea_lload_n (pc := 123) dX12_order_123 rfl 1 rfl ?_
        refine ea_lload (pc := 124) dX12_order_124 3 rfl ?_
        obtain ⟨z24, E⟩ := gd_some E
        refine ea_ldiv (pc := 126) dX12_order_126 z24 ?_
        exact ea_lretO (pc := 127) dX12_order_127 rfl E
      · have E := (if_pos c26).symm.trans E
        refine ea_lload_n (pc := 113) dX12_order_113 rfl 1 rfl ?_
        refine ea_lload (pc := 114) dX12_order_114 2 rfl ?_
        refine ea_lsub (pc := 116) dX12_order_116 ?_
        refine ea_lload (pc := 117) dX12_order_117 3 rfl ?_
        obtain ⟨z25, E⟩ := gd_some E
        refine ea_ldiv (pc := 119) dX12_order_119 z25 ?_
        refine ea_goto (pc := 120) (tgt := 127) dX12_order_120 rfl ?_
        exact ea_lretO (pc := 127) dX12_order_127 rfl E
    · have E := (if_neg c28).symm.trans E
      refine ea_lload_n (pc := 66) dX12_order_66 rfl 3 rfl ?_
      refine ea_ldc2 (pc := 67) dX12_order_67 ew_2119 ?_
      refine ea_lmul (pc := 70) dX12_order_70 ?_
      refine ea_lstore_n (pc := 71) (lv' := [(0, vR (some (b0 + 0))), (1, vI x1), (2, vI x2), (3, vJ (y3 * (100 : Int64))), (5, vJ y5), (7, vI x7)]) dX12_order_71 rfl (Nat.le_of_ble_eq_true rfl) [1, 2, 3, 0, 4, 5] rfl ?_
      refine ea_lload (pc := 72) dX12_order_72 4 rfl ?_
      refine ea_bipush (pc := 74) dX12_order_74 (v := 100) rfl ?_
      refine ea_aload_n (pc := 76) dX12_order_76 rfl 0 rfl ?_
      refine ea_getR (pc := 77) dX12_order_77 ec_12 (k := 99) (Nat.le_of_ble_eq_true rfl) rfl (Or.inl ew_1444) (hs.1 0 (by decide)).1 (hs.1 0 (by decide)).2.1 (hs.2 0 99 rfl) ?_
      refine ea_iconst (pc := 80) dX12_order_80 (v := 4) rfl ?_
      refine ea_iload_n (pc := 81) dX12_order_81 rfl 1 rfl ?_
      refine ea_imul (pc := 82) dX12_order_82 ?_
      refine ea_iload (pc := 83) dX12_order_83 5 rfl ?_
      refine ea_iadd (pc := 85) dX12_order_85 ?_
      obtain ⟨z27, E⟩ := gd_some E
      refine ea_iald (pc := 86) dX12_order_86 (hs.1 72 (by decide)).1 (hs.1 72 (by decide)).2.1 (ea_vpl (hs.1 72 (by decide)).2.2 z27) ?_
      refine ea_isub (pc := 87) dX12_order_87 ?_
      refine ea_i2l (pc := 88) dX12_order_88 ?_
      refine ea_lmul (pc := 89) dX12_order_89 ?_
      refine ea_lstore (pc := 90) (lv' := [(0, vR (some (b0 + 0))), (1, vI x1), (2, vI x2), (3, vJ (y3 * (100 : Int64))), (5, vJ (y5 * (Int32.toInt64 ((100 : Int32) - (ea_i h (b0 + 72) (Int32.toNatClampNeg (((4 : Int32) * x1) + x7))))))), (7, vI x7)]) dX12_order_90 (Nat.le_of_ble_eq_true rfl) [1, 2, 3, 4, 0, 5] rfl ?_
      refine ea_iinc (pc := 92) (v := 1) (lv' := [(0, vR (some (b0 + 0))), (1, vI x1), (2, vI x2), (3, vJ (y3 * (100 : Int64))), (5, vJ (y5 * (Int32.toInt64 ((100 : Int32) - (ea_i h (b0 + 72) (Int32.toNatClampNeg (((4 : Int32) * x1) + x7))))))), (7, vI (x7 + (1 : Int32)))]) dX12_order_92 5 rfl rfl (Nat.le_of_ble_eq_true rfl) [1, 2, 3, 4, 5, 0] rfl ?_
      refine ea_goto (pc := 95) (tgt := 55) dX12_order_95 rfl ?_
      exact ((ih 55 (x1 : Int32) (x2 : Int32) ((x7 + (1 : Int32)) : Int32) ((y3 * (100 : Int64)) : Int64) ((y5 * (Int32.toInt64 ((100 : Int32) - (ea_i h (b0 + 72) (Int32.toNatClampNeg (((4 : Int32) * x1) + x7)))))) : Int64) h _ _ E hs).2.2 rfl)
noncomputable def qX12_order (b0 : Nat) (x1 : Int32) (x2 : Int32) (h : ea_H) : Option (Int64 × ea_H) := gX12_order b0 1000000000 0 x1 x2 0 0 0 h
def okX12_order (b0 : Nat) (x1 : Int32) (x2 : Int32) (h : ea_H) : Prop := ∃ x, qX12_order b0 x1 x2 h = some x
noncomputable def vX12_order (b0 : Nat) (x1 : Int32) (x2 : Int32) (h : ea_H) : Int64 := ((qX12_order b0 x1 x2 h).getD (0, h)).1
noncomputable def wX12_order (b0 : Nat) (x1 : Int32) (x2 : Int32) (h : ea_H) : ea_H := ((qX12_order b0 x1 x2 h).getD (0, h)).2
theorem sX12_order {d : Nat} {b0 : Nat} {x1 : Int32} {x2 : Int32} {h : ea_H} (hd : 3 ≤ d) (hs : ShM b0 h) (K : okX12_order b0 x1 x2 h) : ea_Met mX12_order d [vR (some (b0 + 0)), vI x1, vI x2] h (some (vJ (vX12_order b0 x1 x2 h))) (wX12_order b0 x1 x2 h) := by
  obtain ⟨⟨x, y⟩, K⟩ := K
  unfold wX12_order vX12_order
  rw [K]
  unfold qX12_order at K
  exact ea_enter rfl (Nat.le_of_ble_eq_true rfl) ((tX12_order hd 1000000000 0 x1 x2 0 0 0 h x y K hs).1 rfl)
theorem zX12_order {b0 : Nat} : ∀ (f lbl : Nat) (x1 : Int32) (x2 : Int32) (x7 : Int32) (y3 : Int64) (y5 : Int64) (h : ea_H) (r : Int64) (h' : ea_H), gX12_order b0 f lbl x1 x2 x7 y3 y5 h = some (r, h') → ShM b0 h → ShM b0 h' := by
  intro f
  induction f with
  | zero => intro lbl x1 x2 x7 y3 y5 h r h' E; cases E
  | succ f ih =>
    intro lbl x1 x2 x7 y3 y5 h r h' E hs
    unfold gX12_order at E
    by_cases el0 : lbl = 0
    · have E := (if_pos el0).symm.trans E
      by_cases c18 : (vX12_isLetterOf b0 (x1 : Int32) h) = (0 : Int32)
      · have E := (if_pos c18).symm.trans E
        exact ea_shO E hs
      have E := (if_neg c18).symm.trans E
      by_cases c17 : x2 = (0 : Int32)
      · have E := (if_pos c17).symm.trans E
        obtain ⟨z16, E⟩ := gd_some E
        exact ea_shO E hs
      have E := (if_neg c17).symm.trans E
      by_cases c15 : x2 = (1 : Int32)
      · have E := (if_pos c15).symm.trans E
        exact ih 34 (x1 : Int32) (x2 : Int32) 0 0 0 h _ _ E hs
      have E := (if_neg c15).symm.trans E
      by_cases c14 : x2 = (2 : Int32)
      · have E := (if_pos c14).symm.trans E
        exact ih 34 (x1 : Int32) (x2 : Int32) 0 0 0 h _ _ E hs
      have E := (if_neg c14).symm.trans E
      obtain ⟨z2, E⟩ := gd_some E
      by_cases c13 : (vX12_isIn (x2 : Int32) (10 : Int32) (((9 : Int32) + (ea_i h (b0 + 70) (Int32.toNatClampNeg x1))) : Int32) h) = (0 : Int32)
      · have E := (if_pos c13).symm.trans E
        obtain ⟨z4, E⟩ := gd_some E
        by_cases c9 : (vX12_isIn (x2 : Int32) (20 : Int32) (((19 : Int32) + (ea_i h (b0 + 70) (Int32.toNatClampNeg x1))) : Int32) h) = (0 : Int32)
        · have E := (if_pos c9).symm.trans E
          exact ea_shO E hs
        have E := (if_neg c9).symm.trans E
        obtain ⟨z6, E⟩ := gd_some E
        obtain ⟨z8, E⟩ := gd_some E
        exact ea_shO E (shX12_ordered hs)
      have E := (if_neg c13).symm.trans E
      obtain ⟨z10, E⟩ := gd_some E
      obtain ⟨z12, E⟩ := gd_some E
      exact ea_shO E (shX12_ordered hs)
    have E := (if_neg el0).symm.trans E
    by_cases el1 : lbl = 34
    · have E := (if_pos el1).symm.trans E
      obtain ⟨z19, E⟩ := gd_some E
      by_cases c20 : (ea_i h (b0 + 70) (Int32.toNatClampNeg x1)) = (0 : Int32)
      · have E := (if_pos c20).symm.trans E
        exact ea_shO E hs
      have E := (if_neg c20).symm.trans E
      exact ih 55 (x1 : Int32) (x2 : Int32) (0 : Int32) (1 : Int64) (1 : Int64) h _ _ E hs
    have E := (if_neg el1).symm.trans E
    by_cases el2 : lbl = 55
    · have E := (if_pos el2).symm.trans E
      obtain ⟨z21, E⟩ := gd_some E
      by_cases c28 : (ea_i h (b0 + 70) (Int32.toNatClampNeg x1)) ≤ x7
      · have E := (if_pos c28).symm.trans E
        obtain ⟨z22, E⟩ := gd_some E
        by_cases c26 : x2 = (1 : Int32)
        · have E := (if_pos c26).symm.trans E
          obtain ⟨z25, E⟩ := gd_some E
          exact ea_shO E (shX12_common hs)
        have E := (if_neg c26).symm.trans E
        obtain ⟨z24, E⟩ := gd_some E
        exact ea_shO E (shX12_common hs)
      have E := (if_neg c28).symm.trans E
      obtain ⟨z27, E⟩ := gd_some E
      exact ih 55 (x1 : Int32) (x2 : Int32) ((x7 + (1 : Int32)) : Int32) ((y3 * (100 : Int64)) : Int64) ((y5 * (Int32.toInt64 ((100 : Int32) - (ea_i h (b0 + 72) (Int32.toNatClampNeg (((4 : Int32) * x1) + x7)))))) : Int64) h _ _ E hs
    have E := (if_neg el2).symm.trans E
    cases E
theorem shX12_order {b0 : Nat} {x1 : Int32} {x2 : Int32} {h : ea_H} (hs : ShM b0 h) : ShM b0 (wX12_order b0 x1 x2 h) := by
  unfold wX12_order
  cases K : qX12_order b0 x1 x2 h with
  | none => exact hs
  | some x => obtain ⟨x, y⟩ := x; unfold qX12_order at K; exact zX12_order _ _ _ _ _ _ _ _ _ _ K hs
noncomputable def gX12_found (b0 : Nat) : Nat → Nat → Int32 → Int32 → Int32 → ea_H → Option (Int32 × ea_H)
  | 0, _, _, _, _, _ => none
  | f + 1, lbl, x1, x2, x3, h =>
    if lbl = 0 then (if (vX12_isLetterOf b0 (x1 : Int32) h) = (0 : Int32) then (some ((0 : Int32), h)) else (gd (vp_in x1 120) (if (ea_i h (b0 + 55) (Int32.toNatClampNeg x1)) = (3 : Int32) then (gX12_found b0 f 22 (x1 : Int32) (x2 : Int32) (0 : Int32) h) else (some ((0 : Int32), h))))) else
    if lbl = 22 then (gd (vp_in x1 120) (if (ea_i h (b0 + 70) (Int32.toNatClampNeg x1)) ≤ x3 then (some ((0 : Int32), h)) else (gd (vp_in (((4 : Int32) * x1) + x3) 480) (if (ea_i h (b0 + 71) (Int32.toNatClampNeg (((4 : Int32) * x1) + x3))) = x2 then (gd ((okX12_turns b0 (x1 : Int32) ((ea_i h (b0 + 0) 0) : Int32) (5 : Int32) (x2 : Int32) h)) (some ((1 : Int32), (wX12_turns b0 (x1 : Int32) ((ea_i h (b0 + 0) 0) : Int32) (5 : Int32) (x2 : Int32) h)))) else (gX12_found b0 f 22 (x1 : Int32) (x2 : Int32) ((x3 + (1 : Int32)) : Int32) h))))) else none
theorem tX12_found {d : Nat} {b0 : Nat} {h0 : ea_H} (hd : 3 ≤ d) : ∀ (f lbl : Nat) (x1 : Int32) (x2 : Int32) (x3 : Int32) (h : ea_H) (r : Int32) (h' : ea_H), gX12_found b0 f lbl x1 x2 x3 h = some (r, h') → ShM b0 h → (lbl = 0 → ea_W mX12_found d h0 (some (vI r)) h' 0 [(0, vR (some (b0 + 0))), (1, vI x1), (2, vI x2)] [] h) ∧ (lbl = 22 → ea_W mX12_found d h0 (some (vI r)) h' 22 [(0, vR (some (b0 + 0))), (1, vI x1), (2, vI x2), (3, vI x3)] [] h) := by
  intro f
  induction f with
  | zero => intro lbl x1 x2 x3 h r h' E; cases E
  | succ f ih =>
    intro lbl x1 x2 x3 h r h' E hs
    unfold gX12_found at E
    refine ⟨?_, ?_⟩
    · intro el
      subst el
      have E := (if_pos rfl).symm.trans E
      refine ea_aload_n (pc := 0) dX12_found_0 rfl 0 rfl ?_
      refine ea_iload_n (pc := 1) dX12_found_1 rfl 1 rfl ?_
      refine ea_callV (pc := 2) (d' := d - 1) (As := [vI x1]) (st := []) dX12_found_2 kX12_isLetterOf (sX12_isLetterOf (d := d - 1) (by omega) hs) (by omega) rfl (Nat.le_of_ble_eq_true rfl) ew_2019 ew_2021 ew_89 (ci := 12) rfl (by decide) (hs.1 0 (by decide)).1 (hs.1 0 (by decide)).2.1 ?_
      refine ea_if_eq (pc := 5) (tgt := 18) dX12_found_5 rfl (fun c4 => ?_) (fun c4 => ?_)
      · have E := (if_pos c4).symm.trans E
        refine ea_iconst (pc := 18) dX12_found_18 (v := 0) rfl ?_
        exact ea_iretO (pc := 19) dX12_found_19 rfl (ea_bn (Or.inl rfl)) E
      · have E := (if_neg c4).symm.trans E
        refine ea_aload_n (pc := 8) dX12_found_8 rfl 0 rfl ?_
        refine ea_getR (pc := 9) dX12_found_9 ec_12 (k := 81) (Nat.le_of_ble_eq_true rfl) rfl (Or.inl ew_1426) (hs.1 0 (by decide)).1 (hs.1 0 (by decide)).2.1 (hs.2 0 81 rfl) ?_
        refine ea_iload_n (pc := 12) dX12_found_12 rfl 1 rfl ?_
        obtain ⟨z2, E⟩ := gd_some E
        refine ea_iald (pc := 13) dX12_found_13 (hs.1 55 (by decide)).1 (hs.1 55 (by decide)).2.1 (ea_vpl (hs.1 55 (by decide)).2.2 z2) ?_
        refine ea_iconst (pc := 14) dX12_found_14 (v := 3) rfl ?_
        refine ea_icmp_eq (pc := 15) (tgt := 20) dX12_found_15 rfl (fun c3 => ?_) (fun c3 => ?_)
        · have E := (if_pos c3).symm.trans E
          refine ea_iconst (pc := 20) dX12_found_20 (v := 0) rfl ?_
          refine ea_istore_n (pc := 21) (lv' := [(0, vR (some (b0 + 0))), (1, vI x1), (2, vI x2), (3, vI 0)]) dX12_found_21 rfl (Nat.le_of_ble_eq_true rfl) [1, 2, 3, 0] rfl ?_
          exact ((ih 22 (x1 : Int32) (x2 : Int32) (0 : Int32) h _ _ E hs).2 rfl)
        · have E := (if_neg c3).symm.trans E
          refine ea_iconst (pc := 18) dX12_found_18 (v := 0) rfl ?_
          exact ea_iretO (pc := 19) dX12_found_19 rfl (ea_bn (Or.inl rfl)) E
    intro el
    subst el
    have E := (if_neg (by decide)).symm.trans E
    have E := (if_pos rfl).symm.trans E
    refine ea_iload_n (pc := 22) dX12_found_22 rfl 3 rfl ?_
    refine ea_aload_n (pc := 23) dX12_found_23 rfl 0 rfl ?_
    refine ea_getR (pc := 24) dX12_found_24 ec_12 (k := 97) (Nat.le_of_ble_eq_true rfl) rfl (Or.inl ew_1442) (hs.1 0 (by decide)).1 (hs.1 0 (by decide)).2.1 (hs.2 0 97 rfl) ?_
    refine ea_iload_n (pc := 27) dX12_found_27 rfl 1 rfl ?_
    obtain ⟨z5, E⟩ := gd_some E
    refine ea_iald (pc := 28) dX12_found_28 (hs.1 70 (by decide)).1 (hs.1 70 (by decide)).2.1 (ea_vpl (hs.1 70 (by decide)).2.2 z5) ?_
    refine ea_icmp_ge (pc := 29) (tgt := 68) dX12_found_29 rfl (fun c10 => ?_) (fun c10 => ?_)
    · have E := (if_pos c10).symm.trans E
      refine ea_iconst (pc := 68) dX12_found_68 (v := 0) rfl ?_
      exact ea_iretO (pc := 69) dX12_found_69 rfl (ea_bn (Or.inl rfl)) E
    · have E := (if_neg c10).symm.trans E
      refine ea_aload_n (pc := 32) dX12_found_32 rfl 0 rfl ?_
      refine ea_getR (pc := 33) dX12_found_33 ec_12 (k := 98) (Nat.le_of_ble_eq_true rfl) rfl (Or.inl ew_1443) (hs.1 0 (by decide)).1 (hs.1 0 (by decide)).2.1 (hs.2 0 98 rfl) ?_
      refine ea_iconst (pc := 36) dX12_found_36 (v := 4) rfl ?_
      refine ea_iload_n (pc := 37) dX12_found_37 rfl 1 rfl ?_
      refine ea_imul (pc := 38) dX12_found_38 ?_
      refine ea_iload_n (pc := 39) dX12_found_39 rfl 3 rfl ?_
      refine ea_iadd (pc := 40) dX12_found_40 ?_
      obtain ⟨z6, E⟩ := gd_some E
      refine ea_iald (pc := 41) dX12_found_41 (hs.1 71 (by decide)).1 (hs.1 71 (by decide)).2.1 (ea_vpl (hs.1 71 (by decide)).2.2 z6) ?_
      refine ea_iload_n (pc := 42) dX12_found_42 rfl 2 rfl ?_
      refine ea_icmp_eq (pc := 43) (tgt := 49) dX12_found_43 rfl (fun c9 => ?_) (fun c9 => ?_)
      · have E := (if_pos c9).symm.trans E
        refine ea_aload_n (pc := 49) dX12_found_49 rfl 0 rfl ?_
        refine ea_iload_n (pc := 50) dX12_found_50 rfl 1 rfl ?_
        refine ea_aload_n (pc := 51) dX12_found_51 rfl 0 rfl ?_
        refine ea_getI (pc := 52) dX12_found_52 ec_12 (k := 0) (Nat.le_of_ble_eq_true rfl) rfl (Or.inl ew_1345) (hs.1 0 (by decide)).1 (hs.1 0 (by decide)).2.1 ?_
        refine ea_iconst (pc := 55) dX12_found_55 (v := 5) rfl ?_
        refine ea_iload_n (pc := 56) dX12_found_56 rfl 2 rfl ?_
        obtain ⟨z7, E⟩ := gd_some E
        refine ea_callV (pc := 57) (d' := d - 1) (As := [vI x1, vI (ea_i h (b0 + 0) 0), vI 5, vI x2]) (st := []) dX12_found_57 kX12_turns (sX12_turns (d := d - 1) (by omega) hs z7) (by omega) rfl (Nat.le_of_ble_eq_true rfl) ew_2011 ew_2013 ew_88 (ci := 12) rfl (by decide) (hs.1 0 (by decide)).1 (hs.1 0 (by decide)).2.1 ?_
        have hs8 : ShM b0 (wX12_turns b0 (x1 : Int32) ((ea_i h (b0 + 0) 0) : Int32) (5 : Int32) (x2 : Int32) h) := shX12_turns hs
        refine ea_iconst (pc := 60) dX12_found_60 (v := 1) rfl ?_
        exact ea_iretO (pc := 61) dX12_found_61 rfl (ea_bn (Or.inr rfl)) E
      · have E := (if_neg c9).symm.trans E
        refine ea_goto (pc := 46) (tgt := 62) dX12_found_46 rfl ?_
        refine ea_iinc (pc := 62) (v := 1) (lv' := [(0, vR (some (b0 + 0))), (1, vI x1), (2, vI x2), (3, vI (x3 + (1 : Int32)))]) dX12_found_62 3 rfl rfl (Nat.le_of_ble_eq_true rfl) [1, 2, 3, 0] rfl ?_
        refine ea_goto (pc := 65) (tgt := 22) dX12_found_65 rfl ?_
        exact ((ih 22 (x1 : Int32) (x2 : Int32) ((x3 + (1 : Int32)) : Int32) h _ _ E hs).2 rfl)
noncomputable def qX12_found (b0 : Nat) (x1 : Int32) (x2 : Int32) (h : ea_H) : Option (Int32 × ea_H) := gX12_found b0 1000000000 0 x1 x2 0 h
def okX12_found (b0 : Nat) (x1 : Int32) (x2 : Int32) (h : ea_H) : Prop := ∃ x, qX12_found b0 x1 x2 h = some x
noncomputable def vX12_found (b0 : Nat) (x1 : Int32) (x2 : Int32) (h : ea_H) : Int32 := ((qX12_found b0 x1 x2 h).getD (0, h)).1
noncomputable def wX12_found (b0 : Nat) (x1 : Int32) (x2 : Int32) (h : ea_H) : ea_H := ((qX12_found b0 x1 x2 h).getD (0, h)).2
theorem sX12_found {d : Nat} {b0 : Nat} {x1 : Int32} {x2 : Int32} {h : ea_H} (hd : 3 ≤ d) (hs : ShM b0 h) (K : okX12_found b0 x1 x2 h) : ea_Met mX12_found d [vR (some (b0 + 0)), vI x1, vI x2] h (some (vI (vX12_found b0 x1 x2 h))) (wX12_found b0 x1 x2 h) := by
  obtain ⟨⟨x, y⟩, K⟩ := K
  unfold wX12_found vX12_found
  rw [K]
  unfold qX12_found at K
  exact ea_enter rfl (Nat.le_of_ble_eq_true rfl) ((tX12_found hd 1000000000 0 x1 x2 0 h x y K hs).1 rfl)
theorem zX12_found {b0 : Nat} : ∀ (f lbl : Nat) (x1 : Int32) (x2 : Int32) (x3 : Int32) (h : ea_H) (r : Int32) (h' : ea_H), gX12_found b0 f lbl x1 x2 x3 h = some (r, h') → ShM b0 h → ShM b0 h' := by
  intro f
  induction f with
  | zero => intro lbl x1 x2 x3 h r h' E; cases E
  | succ f ih =>
    intro lbl x1 x2 x3 h r h' E hs
    unfold gX12_found at E
    by_cases el0 : lbl = 0
    · have E := (if_pos el0).symm.trans E
      by_cases c4 : (vX12_isLetterOf b0 (x1 : Int32) h) = (0 : Int32)
      · have E := (if_pos c4).symm.trans E
        exact ea_shO E hs
      have E := (if_neg c4).symm.trans E
      obtain ⟨z2, E⟩ := gd_some E
      by_cases c3 : (ea_i h (b0 + 55) (Int32.toNatClampNeg x1)) = (3 : Int32)
      · have E := (if_pos c3).symm.trans E
        exact ih 22 (x1 : Int32) (x2 : Int32) (0 : Int32) h _ _ E hs
      have E := (if_neg c3).symm.trans E
      exact ea_shO E hs
    have E := (if_neg el0).symm.trans E
    by_cases el1 : lbl = 22
    · have E := (if_pos el1).symm.trans E
      obtain ⟨z5, E⟩ := gd_some E
      by_cases c10 : (ea_i h (b0 + 70) (Int32.toNatClampNeg x1)) ≤ x3
      · have E := (if_pos c10).symm.trans E
        exact ea_shO E hs
      have E := (if_neg c10).symm.trans E
      obtain ⟨z6, E⟩ := gd_some E
      by_cases c9 : (ea_i h (b0 + 71) (Int32.toNatClampNeg (((4 : Int32) * x1) + x3))) = x2
      · have E := (if_pos c9).symm.trans E
        obtain ⟨z7, E⟩ := gd_some E
        exact ea_shO E (shX12_turns hs)
      have E := (if_neg c9).symm.trans E
      exact ih 22 (x1 : Int32) (x2 : Int32) ((x3 + (1 : Int32)) : Int32) h _ _ E hs
    have E := (if_neg el1).symm.trans E
    cases E
theorem shX12_found {b0 : Nat} {x1 : Int32} {x2 : Int32} {h : ea_H} (hs : ShM b0 h) : ShM b0 (wX12_found b0 x1 x2 h) := by
  unfold wX12_found
  cases K : qX12_found b0 x1 x2 h with
  | none => exact hs
  | some x => obtain ⟨x, y⟩ := x; unfold qX12_found at K; exact zX12_found _ _ _ _ _ _ _ _ K hs
noncomputable def gX12_rob (b0 : Nat) : Nat → Nat → Int32 → Int32 → Int32 → Int32 → Int32 → ea_H → Option (Int32 × ea_H)
  | 0, _, _, _, _, _, _, _ => none
  | f + 1, lbl, x1, x2, x3, x5, x6, h =>
    if lbl = 0 then (if (vX12_isTrain b0 (x1 : Int32) h) = (0 : Int32) then (some (((-1) : Int32), h)) else (if (vX12_isDay (x2 : Int32) h) = (0 : Int32) then (some (((-1) : Int32), h)) else (if (ea_i h (b0 + 0) 100) = (20 : Int32) then (some (((-1) : Int32), h)) else (gd ((okX12_gone b0 ((vX12_run (x1 : Int32) (x2 : Int32) h) : Int32) h)) (if (vX12_gone b0 ((vX12_run (x1 : Int32) (x2 : Int32) h) : Int32) h) = ((-1) : Int32) then (some (((-1) : Int32), (wX12_gone b0 ((vX12_run (x1 : Int32) (x2 : Int32) h) : Int32) h))) else (gd ((okX12_comesAt b0 ((vX12_run (x1 : Int32) (x2 : Int32) h) : Int32) (((vX12_gone b0 ((vX12_run (x1 : Int32) (x2 : Int32) h) : Int32) h) + (1 : Int32)) : Int32) (wX12_gone b0 ((vX12_run (x1 : Int32) (x2 : Int32) h) : Int32) h))) (if (ea_i (wX12_gone b0 ((vX12_run (x1 : Int32) (x2 : Int32) h) : Int32) h) (b0 + 0) 0) < (vX12_comesAt b0 ((vX12_run (x1 : Int32) (x2 : Int32) h) : Int32) (((vX12_gone b0 ((vX12_run (x1 : Int32) (x2 : Int32) h) : Int32) h) + (1 : Int32)) : Int32) (wX12_gone b0 ((vX12_run (x1 : Int32) (x2 : Int32) h) : Int32) h)) then (gd (vp_in (ea_i (wX12_gone b0 ((vX12_run (x1 : Int32) (x2 : Int32) h) : Int32) h) (b0 + 0) 100) 20) (gd (vp_in (ea_i (wX12_gone b0 ((vX12_run (x1 : Int32) (x2 : Int32) h) : Int32) h) (b0 + 0) 100) 20) (gX12_rob b0 f 104 0 0 ((vX12_run (x1 : Int32) (x2 : Int32) h) : Int32) ((ea_i (wX12_gone b0 ((vX12_run (x1 : Int32) (x2 : Int32) h) : Int32) h) (b0 + 0) 100) : Int32) (0 : Int32) (ea_wi (ea_wi (ea_wi (wX12_gone b0 ((vX12_run (x1 : Int32) (x2 : Int32) h) : Int32) h) (b0 + 0) 100 ((ea_i (wX12_gone b0 ((vX12_run (x1 : Int32) (x2 : Int32) h) : Int32) h) (b0 + 0) 100) + (1 : Int32))) (b0 + 73) (Int32.toNatClampNeg (ea_i (wX12_gone b0 ((vX12_run (x1 : Int32) (x2 : Int32) h) : Int32) h) (b0 + 0) 100)) (vX12_code ((vX12_run (x1 : Int32) (x2 : Int32) h) : Int32) (ea_wi (wX12_gone b0 ((vX12_run (x1 : Int32) (x2 : Int32) h) : Int32) h) (b0 + 0) 100 ((ea_i (wX12_gone b0 ((vX12_run (x1 : Int32) (x2 : Int32) h) : Int32) h) (b0 + 0) 100) + (1 : Int32))))) (b0 + 74) (Int32.toNatClampNeg (ea_i (wX12_gone b0 ((vX12_run (x1 : Int32) (x2 : Int32) h) : Int32) h) (b0 + 0) 100)) (ea_i (ea_wi (ea_wi (wX12_gone b0 ((vX12_run (x1 : Int32) (x2 : Int32) h) : Int32) h) (b0 + 0) 100 ((ea_i (wX12_gone b0 ((vX12_run (x1 : Int32) (x2 : Int32) h) : Int32) h) (b0 + 0) 100) + (1 : Int32))) (b0 + 73) (Int32.toNatClampNeg (ea_i (wX12_gone b0 ((vX12_run (x1 : Int32) (x2 : Int32) h) : Int32) h) (b0 + 0) 100)) (vX12_code ((vX12_run (x1 : Int32) (x2 : Int32) h) : Int32) (ea_wi (wX12_gone b0 ((vX12_run (x1 : Int32) (x2 : Int32) h) : Int32) h) (b0 + 0) 100 ((ea_i (wX12_gone b0 ((vX12_run (x1 : Int32) (x2 : Int32) h) : Int32) h) (b0 + 0) 100) + (1 : Int32))))) (b0 + 0) 0))))) else (some (((-1) : Int32), (wX12_gone b0 ((vX12_run (x1 : Int32) (x2 : Int32) h) : Int32) h)))))))))) else
    if lbl = 104 then (if (ea_i h (b0 + 0) 63) ≤ x6 then (some (x5, h)) else (gd ((okX12_isAboard b0 (x6 : Int32) (x3 : Int32) h)) (if (vX12_isAboard b0 (x6 : Int32) (x3 : Int32) h) = (0 : Int32) then (gX12_rob b0 f 104 0 0 (x3 : Int32) (x5 : Int32) ((x6 + (1 : Int32)) : Int32) h) else (gd (vp_in x6 120) (if (ea_i h (b0 + 61) (Int32.toNatClampNeg x6)) = (0 : Int32) then (gX12_rob b0 f 104 0 0 (x3 : Int32) (x5 : Int32) ((x6 + (1 : Int32)) : Int32) h) else (gd (vp_in x5 20) (gd (vp_in (((120 : Int32) * x5) + (ea_i h (b0 + 75) (Int32.toNatClampNeg x5))) 2400) (gd (vp_in x5 20) (gd (vp_in x5 20) (gd (vp_in x5 20) (gd ((okX12_owed b0 (x6 : Int32) (ea_wi (ea_wi h (b0 + 77) (Int32.toNatClampNeg (((120 : Int32) * x5) + (ea_i h (b0 + 75) (Int32.toNatClampNeg x5)))) x6) (b0 + 75) (Int32.toNatClampNeg x5) ((ea_i (ea_wi h (b0 + 77) (Int32.toNatClampNeg (((120 : Int32) * x5) + (ea_i h (b0 + 75) (Int32.toNatClampNeg x5)))) x6) (b0 + 75) (Int32.toNatClampNeg x5)) + (1 : Int32))))) (gd (vp_in x5 20) (gd ((okX12_turns b0 (x6 : Int32) ((ea_i (ea_wi (ea_wi (ea_wi h (b0 + 77) (Int32.toNatClampNeg (((120 : Int32) * x5) + (ea_i h (b0 + 75) (Int32.toNatClampNeg x5)))) x6) (b0 + 75) (Int32.toNatClampNeg x5) ((ea_i (ea_wi h (b0 + 77) (Int32.toNatClampNeg (((120 : Int32) * x5) + (ea_i h (b0 + 75) (Int32.toNatClampNeg x5)))) x6) (b0 + 75) (Int32.toNatClampNeg x5)) + (1 : Int32))) (b0 + 76) (Int32.toNatClampNeg x5) ((ea_i (ea_wi (ea_wi h (b0 + 77) (Int32.toNatClampNeg (((120 : Int32) * x5) + (ea_i h (b0 + 75) (Int32.toNatClampNeg x5)))) x6) (b0 + 75) (Int32.toNatClampNeg x5) ((ea_i (ea_wi h (b0 + 77) (Int32.toNatClampNeg (((120 : Int32) * x5) + (ea_i h (b0 + 75) (Int32.toNatClampNeg x5)))) x6) (b0 + 75) (Int32.toNatClampNeg x5)) + (1 : Int32))) (b0 + 76) (Int32.toNatClampNeg x5)) + (vX12_owed b0 (x6 : Int32) (ea_wi (ea_wi h (b0 + 77) (Int32.toNatClampNeg (((120 : Int32) * x5) + (ea_i h (b0 + 75) (Int32.toNatClampNeg x5)))) x6) (b0 + 75) (Int32.toNatClampNeg x5) ((ea_i (ea_wi h (b0 + 77) (Int32.toNatClampNeg (((120 : Int32) * x5) + (ea_i h (b0 + 75) (Int32.toNatClampNeg x5)))) x6) (b0 + 75) (Int32.toNatClampNeg x5)) + (1 : Int32)))))) (b0 + 0) 0) : Int32) (4 : Int32) ((vX12_code (x3 : Int32) (ea_wi (ea_wi (ea_wi h (b0 + 77) (Int32.toNatClampNeg (((120 : Int32) * x5) + (ea_i h (b0 + 75) (Int32.toNatClampNeg x5)))) x6) (b0 + 75) (Int32.toNatClampNeg x5) ((ea_i (ea_wi h (b0 + 77) (Int32.toNatClampNeg (((120 : Int32) * x5) + (ea_i h (b0 + 75) (Int32.toNatClampNeg x5)))) x6) (b0 + 75) (Int32.toNatClampNeg x5)) + (1 : Int32))) (b0 + 76) (Int32.toNatClampNeg x5) ((ea_i (ea_wi (ea_wi h (b0 + 77) (Int32.toNatClampNeg (((120 : Int32) * x5) + (ea_i h (b0 + 75) (Int32.toNatClampNeg x5)))) x6) (b0 + 75) (Int32.toNatClampNeg x5) ((ea_i (ea_wi h (b0 + 77) (Int32.toNatClampNeg (((120 : Int32) * x5) + (ea_i h (b0 + 75) (Int32.toNatClampNeg x5)))) x6) (b0 + 75) (Int32.toNatClampNeg x5)) + (1 : Int32))) (b0 + 76) (Int32.toNatClampNeg x5)) + (vX12_owed b0 (x6 : Int32) (ea_wi (ea_wi h (b0 + 77) (Int32.toNatClampNeg (((120 : Int32) * x5) + (ea_i h (b0 + 75) (Int32.toNatClampNeg x5)))) x6) (b0 + 75) (Int32.toNatClampNeg x5) ((ea_i (ea_wi h (b0 + 77) (Int32.toNatClampNeg (((120 : Int32) * x5) + (ea_i h (b0 + 75) (Int32.toNatClampNeg x5)))) x6) (b0 + 75) (Int32.toNatClampNeg x5)) + (1 : Int32))))))) : Int32) (ea_wi (ea_wi (ea_wi h (b0 + 77) (Int32.toNatClampNeg (((120 : Int32) * x5) + (ea_i h (b0 + 75) (Int32.toNatClampNeg x5)))) x6) (b0 + 75) (Int32.toNatClampNeg x5) ((ea_i (ea_wi h (b0 + 77) (Int32.toNatClampNeg (((120 : Int32) * x5) + (ea_i h (b0 + 75) (Int32.toNatClampNeg x5)))) x6) (b0 + 75) (Int32.toNatClampNeg x5)) + (1 : Int32))) (b0 + 76) (Int32.toNatClampNeg x5) ((ea_i (ea_wi (ea_wi h (b0 + 77) (Int32.toNatClampNeg (((120 : Int32) * x5) + (ea_i h (b0 + 75) (Int32.toNatClampNeg x5)))) x6) (b0 + 75) (Int32.toNatClampNeg x5) ((ea_i (ea_wi h (b0 + 77) (Int32.toNatClampNeg (((120 : Int32) * x5) + (ea_i h (b0 + 75) (Int32.toNatClampNeg x5)))) x6) (b0 + 75) (Int32.toNatClampNeg x5)) + (1 : Int32))) (b0 + 76) (Int32.toNatClampNeg x5)) + (vX12_owed b0 (x6 : Int32) (ea_wi (ea_wi h (b0 + 77) (Int32.toNatClampNeg (((120 : Int32) * x5) + (ea_i h (b0 + 75) (Int32.toNatClampNeg x5)))) x6) (b0 + 75) (Int32.toNatClampNeg x5) ((ea_i (ea_wi h (b0 + 77) (Int32.toNatClampNeg (((120 : Int32) * x5) + (ea_i h (b0 + 75) (Int32.toNatClampNeg x5)))) x6) (b0 + 75) (Int32.toNatClampNeg x5)) + (1 : Int32)))))))) (gX12_rob b0 f 104 0 0 (x3 : Int32) (x5 : Int32) ((x6 + (1 : Int32)) : Int32) (wX12_turns b0 (x6 : Int32) ((ea_i (ea_wi (ea_wi (ea_wi h (b0 + 77) (Int32.toNatClampNeg (((120 : Int32) * x5) + (ea_i h (b0 + 75) (Int32.toNatClampNeg x5)))) x6) (b0 + 75) (Int32.toNatClampNeg x5) ((ea_i (ea_wi h (b0 + 77) (Int32.toNatClampNeg (((120 : Int32) * x5) + (ea_i h (b0 + 75) (Int32.toNatClampNeg x5)))) x6) (b0 + 75) (Int32.toNatClampNeg x5)) + (1 : Int32))) (b0 + 76) (Int32.toNatClampNeg x5) ((ea_i (ea_wi (ea_wi h (b0 + 77) (Int32.toNatClampNeg (((120 : Int32) * x5) + (ea_i h (b0 + 75) (Int32.toNatClampNeg x5)))) x6) (b0 + 75) (Int32.toNatClampNeg x5) ((ea_i (ea_wi h (b0 + 77) (Int32.toNatClampNeg (((120 : Int32) * x5) + (ea_i h (b0 + 75) (Int32.toNatClampNeg x5)))) x6) (b0 + 75) (Int32.toNatClampNeg x5)) + (1 : Int32))) (b0 + 76) (Int32.toNatClampNeg x5)) + (vX12_owed b0 (x6 : Int32) (ea_wi (ea_wi h (b0 + 77) (Int32.toNatClampNeg (((120 : Int32) * x5) + (ea_i h (b0 + 75) (Int32.toNatClampNeg x5)))) x6) (b0 + 75) (Int32.toNatClampNeg x5) ((ea_i (ea_wi h (b0 + 77) (Int32.toNatClampNeg (((120 : Int32) * x5) + (ea_i h (b0 + 75) (Int32.toNatClampNeg x5)))) x6) (b0 + 75) (Int32.toNatClampNeg x5)) + (1 : Int32)))))) (b0 + 0) 0) : Int32) (4 : Int32) ((vX12_code (x3 : Int32) (ea_wi (ea_wi (ea_wi h (b0 + 77) (Int32.toNatClampNeg (((120 : Int32) * x5) + (ea_i h (b0 + 75) (Int32.toNatClampNeg x5)))) x6) (b0 + 75) (Int32.toNatClampNeg x5) ((ea_i (ea_wi h (b0 + 77) (Int32.toNatClampNeg (((120 : Int32) * x5) + (ea_i h (b0 + 75) (Int32.toNatClampNeg x5)))) x6) (b0 + 75) (Int32.toNatClampNeg x5)) + (1 : Int32))) (b0 + 76) (Int32.toNatClampNeg x5) ((ea_i (ea_wi (ea_wi h (b0 + 77) (Int32.toNatClampNeg (((120 : Int32) * x5) + (ea_i h (b0 + 75) (Int32.toNatClampNeg x5)))) x6) (b0 + 75) (Int32.toNatClampNeg x5) ((ea_i (ea_wi h (b0 + 77) (Int32.toNatClampNeg (((120 : Int32) * x5) + (ea_i h (b0 + 75) (Int32.toNatClampNeg x5)))) x6) (b0 + 75) (Int32.toNatClampNeg x5)) + (1 : Int32))) (b0 + 76) (Int32.toNatClampNeg x5)) + (vX12_owed b0 (x6 : Int32) (ea_wi (ea_wi h (b0 + 77) (Int32.toNatClampNeg (((120 : Int32) * x5) + (ea_i h (b0 + 75) (Int32.toNatClampNeg x5)))) x6) (b0 + 75) (Int32.toNatClampNeg x5) ((ea_i (ea_wi h (b0 + 77) (Int32.toNatClampNeg (((120 : Int32) * x5) + (ea_i h (b0 + 75) (Int32.toNatClampNeg x5)))) x6) (b0 + 75) (Int32.toNatClampNeg x5)) + (1 : Int32))))))) : Int32) (ea_wi (ea_wi (ea_wi h (b0 + 77) (Int32.toNatClampNeg (((120 : Int32) * x5) + (ea_i h (b0 + 75) (Int32.toNatClampNeg x5)))) x6) (b0 + 75) (Int32.toNatClampNeg x5) ((ea_i (ea_wi h (b0 + 77) (Int32.toNatClampNeg (((120 : Int32) * x5) + (ea_i h (b0 + 75) (Int32.toNatClampNeg x5)))) x6) (b0 + 75) (Int32.toNatClampNeg x5)) + (1 : Int32))) (b0 + 76) (Int32.toNatClampNeg x5) ((ea_i (ea_wi (ea_wi h (b0 + 77) (Int32.toNatClampNeg (((120 : Int32) * x5) + (ea_i h (b0 + 75) (Int32.toNatClampNeg x5)))) x6) (b0 + 75) (Int32.toNatClampNeg x5) ((ea_i (ea_wi h (b0 + 77) (Int32.toNatClampNeg (((120 : Int32) * x5) + (ea_i h (b0 + 75) (Int32.toNatClampNeg x5)))) x6) (b0 + 75) (Int32.toNatClampNeg x5)) + (1 : Int32))) (b0 + 76) (Int32.toNatClampNeg x5)) + (vX12_owed b0 (x6 : Int32) (ea_wi (ea_wi h (b0 + 77) (Int32.toNatClampNeg (((120 : Int32) * x5) + (ea_i h (b0 + 75) (Int32.toNatClampNeg x5)))) x6) (b0 + 75) (Int32.toNatClampNeg x5) ((ea_i (ea_wi h (b0 + 77) (Int32.toNatClampNeg (((120 : Int32) * x5) + (ea_i h (b0 + 75) (Int32.toNatClampNeg x5)))) x6) (b0 + 75) (Int32.toNatClampNeg x5)) + (1 : Int32))))))))))))))))))))) else none
theorem tX12_rob {d : Nat} {b0 : Nat} {h0 : ea_H} (hd : 3 ≤ d) : ∀ (f lbl : Nat) (x1 : Int32) (x2 : Int32) (x3 : Int32) (x5 : Int32) (x6 : Int32) (h : ea_H) (r : Int32) (h' : ea_H), gX12_rob b0 f lbl x1 x2 x3 x5 x6 h = some (r, h') → ShM b0 h → (lbl = 0 → ea_W mX12_rob d h0 (some (vI r)) h' 0 [(0, vR (some (b0 + 0))), (1, vI x1), (2, vI x2)] [] h) ∧ (lbl = 104 → ea_W mX12_rob d h0 (some (vI r)) h' 104 [(0, vR (some (b0 + 0))), (3, vI x3), (5, vI x5), (6, vI x6)] [] h) := by
  intro f
  induction f with
  | zero => intro lbl x1 x2 x3 x5 x6 h r h' E; cases E
  | succ f ih =>
    intro lbl x1 x2 x3 x5 x6 h r h' E hs
    unfold gX12_rob at E
    refine ⟨?_, ?_⟩
    · intro el
      subst el
      have E := (if_pos rfl).symm.trans E
      refine ea_aload_n (pc := 0) dX12_rob_0 rfl 0 rfl ?_
      refine ea_iload_n (pc := 1) dX12_rob_1 rfl 1 rfl ?_
      refine ea_callV (pc := 2) (d' := d - 1) (As := [vI x1]) (st := []) dX12_rob_2 kX12_isTrain (sX12_isTrain (d := d - 1) (by omega) hs) (by omega) rfl (Nat.le_of_ble_eq_true rfl) ew_1736 ew_1738 ew_50 (ci := 12) rfl (by decide) (hs.1 0 (by decide)).1 (hs.1 0 (by decide)).2.1 ?_
      refine ea_if_eq (pc := 5) (tgt := 24) dX12_rob_5 rfl (fun c17 => ?_) (fun c17 => ?_)
      · have E := (if_pos c17).symm.trans E
        refine ea_iconst (pc := 24) dX12_rob_24 (v := (-1)) rfl ?_
        exact ea_iretO (pc := 25) dX12_rob_25 rfl rfl E
      · have E := (if_neg c17).symm.trans E
        refine ea_iload_n (pc := 8) dX12_rob_8 rfl 2 rfl ?_
        refine ea_callS (pc := 9) (d' := d - 1) (As := [vI x2]) (st := []) dX12_rob_9 kX12_isDay (sX12_isDay (d := d - 1) (by omega)) (by omega) rfl (Nat.le_of_ble_eq_true rfl) ew_1752 ew_1753 ?_
        refine ea_if_eq (pc := 12) (tgt := 24) dX12_rob_12 rfl (fun c16 => ?_) (fun c16 => ?_)
        · have E := (if_pos c16).symm.trans E
          refine ea_iconst (pc := 24) dX12_rob_24 (v := (-1)) rfl ?_
          exact ea_iretO (pc := 25) dX12_rob_25 rfl rfl E
        · have E := (if_neg c16).symm.trans E
          refine ea_aload_n (pc := 15) dX12_rob_15 rfl 0 rfl ?_
          refine ea_getI (pc := 16) dX12_rob_16 ec_12 (k := 100) (Nat.le_of_ble_eq_true rfl) rfl (Or.inl ew_1445) (hs.1 0 (by decide)).1 (hs.1 0 (by decide)).2.1 ?_
          refine ea_bipush (pc := 19) dX12_rob_19 (v := 20) rfl ?_
          refine ea_icmp_ne (pc := 21) (tgt := 26) dX12_rob_21 rfl (fun c15 => ?_) (fun c15 => ?_)
          · have E := (if_neg c15).symm.trans E
            refine ea_iload_n (pc := 26) dX12_rob_26 rfl 1 rfl ?_
            refine ea_iload_n (pc := 27) dX12_rob_27 rfl 2 rfl ?_
            refine ea_callS (pc := 28) (d' := d - 1) (As := [vI x1, vI x2]) (st := []) dX12_rob_28 kX12_run (sX12_run (d := d - 1) (by omega)) (by omega) rfl (Nat.le_of_ble_eq_true rfl) ew_1755 ew_1756 ?_
            refine ea_istore_n (pc := 31) (lv' := [(0, vR (some (b0 + 0))), (3, vI (vX12_run (x1 : Int32) (x2 : Int32) h))]) dX12_rob_31 rfl (Nat.le_of_ble_eq_true rfl) [1, 0] rfl ?_
            refine ea_aload_n (pc := 32) dX12_rob_32 rfl 0 rfl ?_
            refine ea_iload_n (pc := 33) dX12_rob_33 rfl 1 rfl ?_
            obtain ⟨z4, E⟩ := gd_some E
            refine ea_callV (pc := 34) (d' := d - 1) (As := [vI (vX12_run (x1 : Int32) (x2 : Int32) h)]) (st := []) dX12_rob_34 kX12_gone (sX12_gone (d := d - 1) (by omega) hs z4) (by omega) rfl (Nat.le_of_ble_eq_true rfl) ew_2094 ew_2096 ew_99 (ci := 12) rfl (by decide) (hs.1 0 (by decide)).1 (hs.1 0 (by decide)).2.1 ?_
            have hs5 : ShM b0 (wX12_gone b0 ((vX12_run (x1 : Int32) (x2 : Int32) h) : Int32) h) := shX12_gone hs
            refine ea_istore (pc := 37) (lv' := [(0, vR (some (b0 + 0))), (3, vI (vX12_run (x1 : Int32) (x2 : Int32) h)), (4, vI (vX12_gone b0 ((vX12_run (x1 : Int32) (x2 : Int32) h) : Int32) h))]) dX12_rob_37 (Nat.le_of_ble_eq_true rfl) [1, 2, 0] rfl ?_
            refine ea_iload (pc := 39) dX12_rob_39 2 rfl ?_
            refine ea_iconst (pc := 41) dX12_rob_41 (v := (-1)) rfl ?_
            refine ea_icmp_eq (pc := 42) (tgt := 61) dX12_rob_42 rfl (fun c14 => ?_) (fun c14 => ?_)
            · have E := (if_pos c14).symm.trans E
              refine ea_iconst (pc := 61) dX12_rob_61 (v := (-1)) rfl ?_
              exact ea_iretO (pc := 62) dX12_rob_62 rfl rfl E
            · have E := (if_neg c14).symm.trans E
              refine ea_aload_n (pc := 45) dX12_rob_45 rfl 0 rfl ?_
              refine ea_iload_n (pc := 46) dX12_rob_46 rfl 1 rfl ?_
              refine ea_iload (pc := 47) dX12_rob_47 2 rfl ?_
              refine ea_iconst (pc := 49) dX12_rob_49 (v := 1) rfl ?_
              refine ea_iadd (pc := 50) dX12_rob_50 ?_
              obtain ⟨z6, E⟩ := gd_some E
              refine ea_callV (pc := 51) (d' := d - 1) (As := [vI (vX12_run (x1 : Int32) (x2 : Int32) h), vI ((vX12_gone b0 ((vX12_run (x1 : Int32) (x2 : Int32) h) : Int32) h) + (1 : Int32))]) (st := []) dX12_rob_51 kX12_comesAt (sX12_comesAt (d := d - 1) (by omega) hs5 z6) (by omega) rfl (Nat.le_of_ble_eq_true rfl) ew_1762 ew_1764 ew_52 (ci := 12) rfl (by decide) (hs5.1 0 (by decide)).1 (hs5.1 0 (by decide)).2.1 ?_
              refine ea_aload_n (pc := 54) dX12_rob_54 rfl 0 rfl ?_
              refine ea_getI (pc := 55) dX12_rob_55 ec_12 (k := 0) (Nat.le_of_ble_eq_true rfl) rfl (Or.inl ew_1345) (hs5.1 0 (by decide)).1 (hs5.1 0 (by decide)).2.1 ?_
              refine ea_icmp_gt (pc := 58) (tgt := 63) dX12_rob_58 rfl (fun c13 => ?_) (fun c13 => ?_)
              · have E := (if_pos c13).symm.trans E
                refine ea_aload_n (pc := 63) dX12_rob_63 rfl 0 rfl ?_
                refine ea_getI (pc := 64) dX12_rob_64 ec_12 (k := 100) (Nat.le_of_ble_eq_true rfl) rfl (Or.inl ew_1445) (hs5.1 0 (by decide)).1 (hs5.1 0 (by decide)).2.1 ?_
                refine ea_istore (pc := 67) (lv' := [(0, vR (some (b0 + 0))), (3, vI (vX12_run (x1 : Int32) (x2 : Int32) h)), (5, vI (ea_i (wX12_gone b0 ((vX12_run (x1 : Int32) (x2 : Int32) h) : Int32) h) (b0 + 0) 100))]) dX12_rob_67 (Nat.le_of_ble_eq_true rfl) [1, 2, 0] rfl ?_
                refine ea_aload_n (pc := 69) dX12_rob_69 rfl 0 rfl ?_
                refine ea_dup (pc := 70) dX12_rob_70 rfl ?_
                refine ea_getI (pc := 71) dX12_rob_71 ec_12 (k := 100) (Nat.le_of_ble_eq_true rfl) rfl (Or.inl ew_1445) (hs5.1 0 (by decide)).1 (hs5.1 0 (by decide)).2.1 ?_
                refine ea_iconst (pc := 74) dX12_rob_74 (v := 1) rfl ?_
                refine ea_iadd (pc := 75) dX12_rob_75 ?_
                refine ea_putI (pc := 76) dX12_rob_76 ec_12 (k := 100) (Nat.le_of_ble_eq_true rfl) rfl (Or.inl ⟨rfl, Or.inl ew_1445⟩) rfl rfl (hs5.1 0 (by decide)).1 (hs5.1 0 (by decide)).2.1 ?_
                have hs7 : ShM b0 (ea_wi (wX12_gone b0 ((vX12_run (x1 : Int32) (x2 : Int32) h) : Int32) h) (b0 + 0) 100 ((ea_i (wX12_gone b0 ((vX12_run (x1 : Int32) (x2 : Int32) h) : Int32) h) (b0 + 0) 100) + (1 : Int32))) := ShM_wi hs5
                refine ea_aload_n (pc := 79) dX12_rob_79 rfl 0 rfl ?_
                refine ea_getR (pc := 80) dX12_rob_80 ec_12 (k := 101) (Nat.le_of_ble_eq_true rfl) rfl (Or.inl ew_1446) (hs7.1 0 (by decide)).1 (hs7.1 0 (by decide)).2.1 (hs7.2 0 101 rfl) ?_
                refine ea_iload (pc := 83) dX12_rob_83 2 rfl ?_
                refine ea_iload_n (pc := 85) dX12_rob_85 rfl 1 rfl ?_
                refine ea_callS (pc := 86) (d' := d - 1) (As := [vI (vX12_run (x1 : Int32) (x2 : Int32) h)]) (st := [vI (ea_i (wX12_gone b0 ((vX12_run (x1 : Int32) (x2 : Int32) h) : Int32) h) (b0 + 0) 100), vR (some (b0 + 73))]) dX12_rob_86 kX12_code (sX12_code (d := d - 1) (by omega)) (by omega) rfl (Nat.le_of_ble_eq_true rfl) ew_2071 ew_2072 ?_
                obtain ⟨z9, E⟩ := gd_some E
                refine ea_iast (pc := 89) dX12_rob_89 (hs7.1 73 (by decide)).1 (hs7.1 73 (by decide)).2.1 (ea_vpl (hs7.1 73 (by decide)).2.2 z9) ?_
                have hs10 : ShM b0 (ea_wi (ea_wi (wX12_gone b0 ((vX12_run (x1 : Int32) (x2 : Int32) h) : Int32) h) (b0 + 0) 100 ((ea_i (wX12_gone b0 ((vX12_run (x1 : Int32) (x2 : Int32) h) : Int32) h) (b0 + 0) 100) + (1 : Int32))) (b0 + 73) (Int32.toNatClampNeg (ea_i (wX12_gone b0 ((vX12_run (x1 : Int32) (x2 : Int32) h) : Int32) h) (b0 + 0) 100)) (vX12_code ((vX12_run (x1 : Int32) (x2 : Int32) h) : Int32) (ea_wi (wX12_gone b0 ((vX12_run (x1 : Int32) (x2 : Int32) h) : Int32) h) (b0 + 0) 100 ((ea_i (wX12_gone b0 ((vX12_run (x1 : Int32) (x2 : Int32) h) : Int32) h) (b0 + 0) 100) + (1 : Int32))))) := ShM_wi hs7
                refine ea_aload_n (pc := 90) dX12_rob_90 rfl 0 rfl ?_
                refine ea_getR (pc := 91) dX12_rob_91 ec_12 (k := 102) (Nat.le_of_ble_eq_true rfl) rfl (Or.inl ew_1447) (hs10.1 0 (by decide)).1 (hs10.1 0 (by decide)).2.1 (hs10.2 0 102 rfl) ?_
                refine ea_iload (pc := 94) dX12_rob_94 2 rfl ?_
                refine ea_aload_n (pc := 96) dX12_rob_96 rfl 0 rfl ?_
                refine ea_getI (pc := 97) dX12_rob_97 ec_12 (k := 0) (Nat.le_of_ble_eq_true rfl) rfl (Or.inl ew_1345) (hs10.1 0 (by decide)).1 (hs10.1 0 (by decide)).2.1 ?_
                obtain ⟨z11, E⟩ := gd_some E
                refine ea_iast (pc := 100) dX12_rob_100 (hs10.1 74 (by decide)).1 (hs10.1 74 (by decide)).2.1 (ea_vpl (hs10.1 74 (by decide)).2.2 z11) ?_
                have hs12 : ShM b0 (ea_wi (ea_wi (ea_wi (wX12_gone b0 ((vX12_run (x1 : Int32) (x2 : Int32) h) : Int32) h) (b0 + 0) 100 ((ea_i (wX12_gone b0 ((vX12_run (x1 : Int32) (x2 : Int32) h) : Int32) h) (b0 + 0) 100) + (1 : Int32))) (b0 + 73) (Int32.toNatClampNeg (ea_i (wX12_gone b0 ((vX12_run (x1 : Int32) (x2 : Int32) h) : Int32) h) (b0 + 0) 100)) (vX12_code ((vX12_run (x1 : Int32) (x2 : Int32) h) : Int32) (ea_wi (wX12_gone b0 ((vX12_run (x1 : Int32) (x2 : Int32) h) : Int32) h) (b0 + 0) 100 ((ea_i (wX12_gone b0 ((vX12_run (x1 : Int32) (x2 : Int32) h) : Int32) h) (b0 + 0) 100) + (1 : Int32))))) (b0 + 74) (Int32.toNatClampNeg (ea_i (wX12_gone b0 ((vX12_run (x1 : Int32) (x2 : Int32) h) : Int32) h) (b0 + 0) 100)) (ea_i (ea_wi (ea_wi (wX12_gone b0 ((vX12_run (x1 : Int32) (x2 : Int32) h) : Int32) h) (b0 + 0) 100 ((ea_i (wX12_gone b0 ((vX12_run (x1 : Int32) (x2 : Int32) h) : Int32) h) (b0 + 0) 100) + (1 : Int32))) (b0 + 73) (Int32.toNatClampNeg (ea_i (wX12_gone b0 ((vX12_run (x1 : Int32) (x2 : Int32) h) : Int32) h) (b0 + 0) 100)) (vX12_code ((vX12_run (x1 : Int32) (x2 : Int32) h) : Int32) (ea_wi (wX12_gone b0 ((vX12_run (x1 : Int32) (x2 : Int32) h) : Int32) h) (b0 + 0) 100 ((ea_i (wX12_gone b0 ((vX12_run (x1 : Int32) (x2 : Int32) h) : Int32) h) (b0 + 0) 100) + (1 : Int32))))) (b0 + 0) 0)) := ShM_wi hs10
                refine ea_iconst (pc := 101) dX12_rob_101 (v := 0) rfl ?_
                refine ea_istore (pc := 102) (lv' := [(0, vR (some (b0 + 0))), (3, vI (vX12_run (x1 : Int32) (x2 : Int32) h)), (5, vI (ea_i (wX12_gone b0 ((vX12_run (x1 : Int32) (x2 : Int32) h) : Int32) h) (b0 + 0) 100)), (6, vI 0)]) dX12_rob_102 (Nat.le_of_ble_eq_true rfl) [1, 2, 3, 0] rfl ?_
                exact ((ih 104 0 0 ((vX12_run (x1 : Int32) (x2 : Int32) h) : Int32) ((ea_i (wX12_gone b0 ((vX12_run (x1 : Int32) (x2 : Int32) h) : Int32) h) (b0 + 0) 100) : Int32) (0 : Int32) (ea_wi (ea_wi (ea_wi (wX12_gone b0 ((vX12_run (x1 : Int32) (x2 : Int32) h) : Int32) h) (b0 + 0) 100 ((ea_i (wX12_gone b0 ((vX12_run (x1 : Int32) (x2 : Int32) h) : Int32) h) (b0 + 0) 100) + (1 : Int32))) (b0 + 73) (Int32.toNatClampNeg (ea_i (wX12_gone b0 ((vX12_run (x1 : Int32) (x2 : Int32) h) : Int32) h) (b0 + 0) 100)) (vX12_code ((vX12_run (x1 : Int32) (x2 : Int32) h) : Int32) (ea_wi (wX12_gone b0 ((vX12_run (x1 : Int32) (x2 : Int32) h) : Int32) h) (b0 + 0) 100 ((ea_i (wX12_gone b0 ((vX12_run (x1 : Int32) (x2 : Int32) h) : Int32) h) (b0 + 0) 100) + (1 : Int32))))) (b0 + 74) (Int32.toNatClampNeg (ea_i (wX12_gone b0 ((vX12_run (x1 : Int32) (x2 : Int32) h) : Int32) h) (b0 + 0) 100)) (ea_i (ea_wi (ea_wi (wX12_gone b0 ((vX12_run (x1 : Int32) (x2 : Int32) h) : Int32) h) (b0 + 0) 100 ((ea_i (wX12_gone b0 ((vX12_run (x1 : Int32) (x2 : Int32) h) : Int32) h) (b0 + 0) 100) + (1 : Int32))) (b0 + 73) (Int32.toNatClampNeg (ea_i (wX12_gone b0 ((vX12_run (x1 : Int32) (x2 : Int32) h) : Int32) h) (b0 + 0) 100)) (vX12_code ((vX12_run (x1 : Int32) (x2 : Int32) h) : Int32) (ea_wi (wX12_gone b0 ((vX12_run (x1 : Int32) (x2 : Int32) h) : Int32) h) (b0 + 0) 100 ((ea_i (wX12_gone b0 ((vX12_run (x1 : Int32) (x2 : Int32) h) : Int32) h) (b0 + 0) 100) + (1 : Int32))))) (b0 + 0) 0)) _ _ E hs12).2 rfl)
              · have E := (if_neg c13).symm.trans E
                refine ea_iconst (pc := 61) dX12_rob_61 (v := (-1)) rfl ?_
                exact ea_iretO (pc := 62) dX12_rob_62 rfl rfl E
          · have E := (if_pos c15).symm.trans E
            refine ea_iconst (pc := 24) dX12_rob_24 (v := (-1)) rfl ?_
            exact ea_iretO (pc := 25) dX12_rob_25 rfl rfl E
    intro el
    subst el
    have E := (if_neg (by decide)).symm.trans E
    have E := (if_pos rfl).symm.trans E
    refine ea_iload (pc := 104) dX12_rob_104 3 rfl ?_
    refine ea_aload_n (pc := 106) dX12_rob_106 rfl 0 rfl ?_
    refine ea_getI (pc := 107) dX12_rob_107 ec_12 (k := 63) (Nat.le_of_ble_eq_true rfl) rfl (Or.inl ew_1408) (hs.1 0 (by decide)).1 (hs.1 0 (by decide)).2.1 ?_
    refine ea_icmp_ge (pc := 110) (tgt := 204) dX12_rob_110 rfl (fun c35 => ?_) (fun c35 => ?_)
    · have E := (if_pos c35).symm.trans E
      refine ea_iload (pc := 204) dX12_rob_204 2 rfl ?_
      exact ea_iretO (pc := 206) dX12_rob_206 rfl rfl E
    · have E := (if_neg c35).symm.trans E
      refine ea_aload_n (pc := 113) dX12_rob_113 rfl 0 rfl ?_
      refine ea_iload (pc := 114) dX12_rob_114 3 rfl ?_
      refine ea_iload_n (pc := 116) dX12_rob_116 rfl 1 rfl ?_
      obtain ⟨z18, E⟩ := gd_some E
      refine ea_callV (pc := 117) (d' := d - 1) (As := [vI x6, vI x3]) (st := []) dX12_rob_117 kX12_isAboard (sX12_isAboard (d := d - 1) (by omega) hs z18) (by omega) rfl (Nat.le_of_ble_eq_true rfl) ew_2067 ew_2069 ew_95 (ci := 12) rfl (by decide) (hs.1 0 (by decide)).1 (hs.1 0 (by decide)).2.1 ?_
      refine ea_if_eq (pc := 120) (tgt := 198) dX12_rob_120 rfl (fun c34 => ?_) (fun c34 => ?_)
      · have E := (if_pos c34).symm.trans E
        refine ea_iinc (pc := 198) (v := 1) (lv' := [(0, vR (some (b0 + 0))), (3, vI x3), (5, vI x5), (6, vI (x6 + (1 : Int32)))]) dX12_rob_198 3 rfl rfl (Nat.le_of_ble_eq_true rfl) [1, 2, 3, 0] rfl ?_
        refine ea_goto (pc := 201) (tgt := 104) dX12_rob_201 rfl ?_
        exact ((ih 104 0 0 (x3 : Int32) (x5 : Int32) ((x6 + (1 : Int32)) : Int32) h _ _ E hs).2 rfl)
      · have E := (if_neg c34).symm.trans E
        refine ea_aload_n (pc := 123) dX12_rob_123 rfl 0 rfl ?_
        refine ea_getR (pc := 124) dX12_rob_124 ec_12 (k := 87) (Nat.le_of_ble_eq_true rfl) rfl (Or.inl ew_1432) (hs.1 0 (by decide)).1 (hs.1 0 (by decide)).2.1 (hs.2 0 87 rfl) ?_
        refine ea_iload (pc := 127) dX12_rob_127 3 rfl ?_
        obtain ⟨z19, E⟩ := gd_some E
        refine ea_zald (pc := 129) dX12_rob_129 (hs.1 61 (by decide)).1 (hs.1 61 (by decide)).2.1 (ea_vpl (hs.1 61 (by decide)).2.2 z19) ?_
        refine ea_if_ne (pc := 130) (tgt := 136) dX12_rob_130 rfl (fun c33 => ?_) (fun c33 => ?_)
        · have E := (if_neg c33).symm.trans E
          refine ea_aload_n (pc := 136) dX12_rob_136 rfl 0 rfl ?_
          refine ea_getR (pc := 137) dX12_rob_137 ec_12 (k := 105) (Nat.le_of_ble_eq_true rfl) rfl (Or.inl ew_1450) (hs.1 0 (by decide)).1 (hs.1 0 (by decide)).2.1 (hs.2 0 105 rfl) ?_
          refine ea_bipush (pc := 140) dX12_rob_140 (v := 120) rfl ?_
          refine ea_iload (pc := 142) dX12_rob_142 2 rfl ?_
          refine ea_imul (pc := 144) dX12_rob_144 ?_
          refine ea_aload_n (pc := 145) dX12_rob_145 rfl 0 rfl ?_
          refine ea_getR (pc := 146) dX12_rob_146 ec_12 (k := 103) (Nat.le_of_ble_eq_true rfl) rfl (Or.inl ew_1448) (hs.1 0 (by decide)).1 (hs.1 0 (by decide)).2.1 (hs.2 0 103 rfl) ?_
          refine ea_iload (pc := 149) dX12_rob_149 2 rfl ?_
          obtain ⟨z20, E⟩ := gd_some E
          refine ea_iald (pc := 151) dX12_rob_151 (hs.1 75 (by decide)).1 (hs.1 75 (by decide)).2.1 (ea_vpl (hs.1 75 (by decide)).2.2 z20) ?_
          refine ea_iadd (pc := 152) dX12_rob_152 ?_
          refine ea_iload (pc := 153) dX12_rob_153 3 rfl ?_
          obtain ⟨z21, E⟩ := gd_some E
          refine ea_iast (pc := 155) dX12_rob_155 (hs.1 77 (by decide)).1 (hs.1 77 (by decide)).2.1 (ea_vpl (hs.1 77 (by decide)).2.2 z21) ?_
          have hs22 : ShM b0 (ea_wi h (b0 + 77) (Int32.toNatClampNeg (((120 : Int32) * x5) + (ea_i h (b0 + 75) (Int32.toNatClampNeg x5)))) x6) := ShM_wi hs
          refine ea_aload_n (pc := 156) dX12_rob_156 rfl 0 rfl ?_
          refine ea_getR (pc := 157) dX12_rob_157 ec_12 (k := 103) (Nat.le_of_ble_eq_true rfl) rfl (Or.inl ew_1448) (hs22.1 0 (by decide)).1 (hs22.1 0 (by decide)).2.1 (hs22.2 0 103 rfl) ?_
          refine ea_iload (pc := 160) dX12_rob_160 2 rfl ?_
          refine ea_dup2 (pc := 162) dX12_rob_162 rfl rfl ?_
          obtain ⟨z23, E⟩ := gd_some E
          refine ea_iald (pc := 163) dX12_rob_163 (hs22.1 75 (by decide)).1 (hs22.1 75 (by decide)).2.1 (ea_vpl (hs22.1 75 (by decide)).2.2 z23) ?_
          refine ea_iconst (pc := 164) dX12_rob_164 (v := 1) rfl ?_
          refine ea_iadd (pc := 165) dX12_rob_165 ?_
          obtain ⟨z24, E⟩ := gd_some E
          refine ea_iast (pc := 166) dX12_rob_166 (hs22.1 75 (by decide)).1 (hs22.1 75 (by decide)).2.1 (ea_vpl (hs22.1 75 (by decide)).2.2 z24) ?_
          have hs25 : ShM b0 (ea_wi (ea_wi h (b0 + 77) (Int32.toNatClampNeg (((120 : Int32) * x5) + (ea_i h (b0 + 75) (Int32.toNatClampNeg x5)))) x6) (b0 + 75) (Int32.toNatClampNeg x5) ((ea_i (ea_wi h (b0 + 77) (Int32.toNatClampNeg (((120 : Int32) * x5) + (ea_i h (b0 + 75) (Int32.toNatClampNeg x5)))) x6) (b0 + 75) (Int32.toNatClampNeg x5)) + (1 : Int32))) := ShM_wi hs22
          refine ea_aload_n (pc := 167) dX12_rob_167 rfl 0 rfl ?_
          refine ea_getR (pc := 168) dX12_rob_168 ec_12 (k := 104) (Nat.le_of_ble_eq_true rfl) rfl (Or.inl ew_1449) (hs25.1 0 (by decide)).1 (hs25.1 0 (by decide)).2.1 (hs25.2 0 104 rfl) ?_
          refine ea_iload (pc := 171) dX12_rob_171 2 rfl ?_
          refine ea_dup2 (pc := 173) dX12_rob_173 rfl rfl ?_
          obtain ⟨z26, E⟩ := gd_some E
          refine ea_iald (pc := 174) dX12_rob_174 (hs25.1 76 (by decide)).1 (hs25.1 76 (by decide)).2.1 (ea_vpl (hs25.1 76 (by decide)).2.2 z26) ?_
          refine ea_aload_n (pc := 175) dX12_rob_175 rfl 0 rfl ?_
          refine ea_iload (pc := 176) dX12_rob_176 3 rfl ?_
          obtain ⟨z27, E⟩ := gd_some E
          refine ea_callV (pc := 178) (d' := d - 1) (As := [vI x6]) (st := [vI (ea_i (ea_wi (ea_wi h (b0 + 77) (Int32.toNatClampNeg (((120 : Int32) * x5) + (ea_i h (b0 + 75) (Int32.toNatClampNeg x5)))) x6) (b0 + 75) (Int32.toNatClampNeg x5) ((ea_i (ea_wi h (b0 + 77) (Int32.toNatClampNeg (((120 : Int32) * x5) + (ea_i h (b0 + 75) (Int32.toNatClampNeg x5)))) x6) (b0 + 75) (Int32.toNatClampNeg x5)) + (1 : Int32))) (b0 + 76) (Int32.toNatClampNeg x5)), vI x5, vR (some (b0 + 76))]) dX12_rob_178 kX12_owed (sX12_owed (d := d - 1) (by omega) hs25 z27) (by omega) rfl (Nat.le_of_ble_eq_true rfl) ew_2027 ew_2029 ew_90 (ci := 12) rfl (by decide) (hs25.1 0 (by decide)).1 (hs25.1 0 (by decide)).2.1 ?_
          refine ea_iadd (pc := 181) dX12_rob_181 ?_
          obtain ⟨z28, E⟩ := gd_some E
          refine ea_iast (pc := 182) dX12_rob_182 (hs25.1 76 (by decide)).1 (hs25.1 76 (by decide)).2.1 (ea_vpl (hs25.1 76 (by decide)).2.2 z28) ?_
          have hs29 : ShM b0 (ea_wi (ea_wi (ea_wi h (b0 + 77) (Int32.toNatClampNeg (((120 : Int32) * x5) + (ea_i h (b0 + 75) (Int32.toNatClampNeg x5)))) x6) (b0 + 75) (Int32.toNatClampNeg x5) ((ea_i (ea_wi h (b0 + 77) (Int32.toNatClampNeg (((120 : Int32) * x5) + (ea_i h (b0 + 75) (Int32.toNatClampNeg x5)))) x6) (b0 + 75) (Int32.toNatClampNeg x5)) + (1 : Int32))) (b0 + 76) (Int32.toNatClampNeg x5) ((ea_i (ea_wi (ea_wi h (b0 + 77) (Int32.toNatClampNeg (((120 : Int32) * x5) + (ea_i h (b0 + 75) (Int32.toNatClampNeg x5)))) x6) (b0 + 75) (Int32.toNatClampNeg x5) ((ea_i (ea_wi h (b0 + 77) (Int32.toNatClampNeg (((120 : Int32) * x5) + (ea_i h (b0 + 75) (Int32.toNatClampNeg x5)))) x6) (b0 + 75) (Int32.toNatClampNeg x5)) + (1 : Int32))) (b0 + 76) (Int32.toNatClampNeg x5)) + (vX12_owed b0 (x6 : Int32) (ea_wi (ea_wi h (b0 + 77) (Int32.toNatClampNeg (((120 : Int32) * x5) + (ea_i h (b0 + 75) (Int32.toNatClampNeg x5)))) x6) (b0 + 75) (Int32.toNatClampNeg x5) ((ea_i (ea_wi h (b0 + 77) (Int32.toNatClampNeg (((120 : Int32) * x5) + (ea_i h (b0 + 75) (Int32.toNatClampNeg x5)))) x6) (b0 + 75) (Int32.toNatClampNeg x5)) + (1 : Int32)))))) := ShM_wi hs25
          refine ea_aload_n (pc := 183) dX12_rob_183 rfl 0 rfl ?_
          refine ea_iload (pc := 184) dX12_rob_184 3 rfl ?_
          refine ea_aload_n (pc := 186) dX12_rob_186 rfl 0 rfl ?_
          refine ea_getI (pc := 187) dX12_rob_187 ec_12 (k := 0) (Nat.le_of_ble_eq_true rfl) rfl (Or.inl ew_1345) (hs29.1 0 (by decide)).1 (hs29.1 0 (by decide)).2.1 ?_
          refine ea_iconst (pc := 190) dX12_rob_190 (v := 4) rfl ?_
          refine ea_iload_n (pc := 191) dX12_rob_191 rfl 1 rfl ?_
          refine ea_callS (pc := 192) (d' := d - 1) (As := [vI x3]) (st := [vI 4, vI (ea_i (ea_wi (ea_wi (ea_wi h (b0 + 77) (Int32.toNatClampNeg (((120 : Int32) * x5) + (ea_i h (b0 + 75) (Int32.toNatClampNeg x5)))) x6) (b0 + 75) (Int32.toNatClampNeg x5) ((ea_i (ea_wi h (b0 + 77) (Int32.toNatClampNeg (((120 : Int32) * x5) + (ea_i h (b0 + 75) (Int32.toNatClampNeg x5)))) x6) (b0 + 75) (Int32.toNatClampNeg x5)) + (1 : Int32))) (b0 + 76) (Int32.toNatClampNeg x5) ((ea_i (ea_wi (ea_wi h (b0 + 77) (Int32.toNatClampNeg (((120 : Int32) * x5) + (ea_i h (b0 + 75) (Int32.toNatClampNeg x5)))) x6) (b0 + 75) (Int32.toNatClampNeg x5) ((ea_i (ea_wi h (b0 + 77) (Int32.toNatClampNeg (((120 : Int32) * x5) + (ea_i h (b0 + 75) (Int32.toNatClampNeg x5)))) x6) (b0 + 75) (Int32.toNatClampNeg x5)) + (1 : Int32))) (b0 + 76) (Int32.toNatClampNeg x5)) + (vX12_owed b0 (x6 : Int32) (ea_wi (ea_wi h (b0 + 77) (Int32.toNatClampNeg (((120 : Int32) * x5) + (ea_i h (b0 + 75) (Int32.toNatClampNeg x5)))) x6) (b0 + 75) (Int32.toNatClampNeg x5) ((ea_i (ea_wi h (b0 + 77) (Int32.toNatClampNeg (((120 : Int32) * x5) + (ea_i h (b0 + 75) (Int32.toNatClampNeg x5)))) x6) (b0 + 75) (Int32.toNatClampNeg x5)) + (1 : Int32)))))) (b0 + 0) 0), vI x6, vR (some (b0 + 0))]) dX12_rob_192 kX12_code (sX12_code (d := d - 1) (by omega)) (by omega) rfl (Nat.le_of_ble_eq_true rfl) ew_2071 ew_2072 ?_
          obtain ⟨z31, E⟩ := gd_some E
          refine ea_callV (pc := 195) (d' := d - 1) (As := [vI x6, vI (ea_i (ea_wi (ea_wi (ea_wi h (b0 + 77) (Int32.toNatClampNeg (((120 : Int32) * x5) + (ea_i h (b0 + 75) (Int32.toNatClampNeg x5)))) x6) (b0 + 75) (Int32.toNatClampNeg x5) ((ea_i (ea_wi h (b0 + 77) (Int32.toNatClampNeg (((120 : Int32) * x5) + (ea_i h (b0 + 75) (Int32.toNatClampNeg x5)))) x6) (b0 + 75) (Int32.toNatClampNeg x5)) + (1 : Int32))) (b0 + 76) (Int32.toNatClampNeg x5) ((ea_i (ea_wi (ea_wi h (b0 + 77) (Int32.toNatClampNeg (((120 : Int32) * x5) + (ea_i h (b0 + 75) (Int32.toNatClampNeg x5)))) x6) (b0 + 75) (Int32.toNatClampNeg x5) ((ea_i (ea_wi h (b0 + 77) (Int32.toNatClampNeg (((120 : Int32) * x5) + (ea_i h (b0 + 75) (Int32.toNatClampNeg x5)))) x6) (b0 + 75) (Int32.toNatClampNeg x5)) + (1 : Int32))) (b0 + 76) (Int32.toNatClampNeg x5)) + (vX12_owed b0 (x6 : Int32) (ea_wi (ea_wi h (b0 + 77) (Int32.toNatClampNeg (((120 : Int32) * x5) + (ea_i h (b0 + 75) (Int32.toNatClampNeg x5)))) x6) (b0 + 75) (Int32.toNatClampNeg x5) ((ea_i (ea_wi h (b0 + 77) (Int32.toNatClampNeg (((120 : Int32) * x5) + (ea_i h (b0 + 75) (Int32.toNatClampNeg x5)))) x6) (b0 + 75) (Int32.toNatClampNeg x5)) + (1 : Int32)))))) (b0 + 0) 0), vI 4, vI (vX12_code (x3 : Int32) (ea_wi (ea_wi (ea_wi h (b0 + 77) (Int32.toNatClampNeg (((120 : Int32) * x5) + (ea_i h (b0 + 75) (Int32.toNatClampNeg x5)))) x6) (b0 + 75) (Int32.toNatClampNeg x5) ((ea_i (ea_wi h (b0 + 77) (Int32.toNatClampNeg (((120 : Int32) * x5) + (ea_i h (b0 + 75) (Int32.toNatClampNeg x5)))) x6) (b0 + 75) (Int32.toNatClampNeg x5)) + (1 : Int32))) (b0 + 76) (Int32.toNatClampNeg x5) ((ea_i (ea_wi (ea_wi h (b0 + 77) (Int32.toNatClampNeg (((120 : Int32) * x5) + (ea_i h (b0 + 75) (Int32.toNatClampNeg x5)))) x6) (b0 + 75) (Int32.toNatClampNeg x5) ((ea_i (ea_wi h (b0 + 77) (Int32.toNatClampNeg (((120 : Int32) * x5) + (ea_i h (b0 + 75) (Int32.toNatClampNeg x5)))) x6) (b0 + 75) (Int32.toNatClampNeg x5)) + (1 : Int32))) (b0 + 76) (Int32.toNatClampNeg x5)) + (vX12_owed b0 (x6 : Int32) (ea_wi (ea_wi h (b0 + 77) (Int32.toNatClampNeg (((120 : Int32) * x5) + (ea_i h (b0 + 75) (Int32.toNatClampNeg x5)))) x6) (b0 + 75) (Int32.toNatClampNeg x5) ((ea_i (ea_wi h (b0 + 77) (Int32.toNatClampNeg (((120 : Int32) * x5) + (ea_i h (b0 + 75) (Int32.toNatClampNeg x5)))) x6) (b0 + 75) (Int32.toNatClampNeg x5)) + (1 : Int32)))))))]) (st := []) dX12_rob_195 kX12_turns (sX12_turns (d := d - 1) (by omega) hs29 z31) (by omega) rfl (Nat.le_of_ble_eq_true rfl) ew_2011 ew_2013 ew_88 (ci := 12) rfl (by decide) (hs29.1 0 (by decide)).1 (hs29.1 0 (by decide)).2.1 ?_
          have hs32 : ShM b0 (wX12_turns b0 (x6 : Int32) ((ea_i (ea_wi (ea_wi (ea_wi h (b0 + 77) (Int32.toNatClampNeg (((120 : Int32) * x5) + (ea_i h (b0 + 75) (Int32.toNatClampNeg x5)))) x6) (b0 + 75) (Int32.toNatClampNeg x5) ((ea_i (ea_wi h (b0 + 77) (Int32.toNatClampNeg (((120 : Int32) * x5) + (ea_i h (b0 + 75) (Int32.toNatClampNeg x5)))) x6) (b0 + 75) (Int32.toNatClampNeg x5)) + (1 : Int32))) (b0 + 76) (Int32.toNatClampNeg x5) ((ea_i (ea_wi (ea_wi h (b0 + 77) (Int32.toNatClampNeg (((120 : Int32) * x5) + (ea_i h (b0 + 75) (Int32.toNatClampNeg x5)))) x6) (b0 + 75) (Int32.toNatClampNeg x5) ((ea_i (ea_wi h (b0 + 77) (Int32.toNatClampNeg (((120 : Int32) * x5) + (ea_i h (b0 + 75) (Int32.toNatClampNeg x5)))) x6) (b0 + 75) (Int32.toNatClampNeg x5)) + (1 : Int32))) (b0 + 76) (Int32.toNatClampNeg x5)) + (vX12_owed b0 (x6 : Int32) (ea_wi (ea_wi h (b0 + 77) (Int32.toNatClampNeg (((120 : Int32) * x5) + (ea_i h (b0 + 75) (Int32.toNatClampNeg x5)))) x6) (b0 + 75) (Int32.toNatClampNeg x5) ((ea_i (ea_wi h (b0 + 77) (Int32.toNatClampNeg (((120 : Int32) * x5) + (ea_i h (b0 + 75) (Int32.toNatClampNeg x5)))) x6) (b0 + 75) (Int32.toNatClampNeg x5)) + (1 : Int32)))))) (b0 + 0) 0) : Int32) (4 : Int32) ((vX12_code (x3 : Int32) (ea_wi (ea_wi (ea_wi h (b0 + 77) (Int32.toNatClampNeg (((120 : Int32) * x5) + (ea_i h (b0 + 75) (Int32.toNatClampNeg x5)))) x6) (b0 + 75) (Int32.toNatClampNeg x5) ((ea_i (ea_wi h (b0 + 77) (Int32.toNatClampNeg (((120 : Int32) * x5) + (ea_i h (b0 + 75) (Int32.toNatClampNeg x5)))) x6) (b0 + 75) (Int32.toNatClampNeg x5)) + (1 : Int32))) (b0 + 76) (Int32.toNatClampNeg x5) ((ea_i (ea_wi (ea_wi h (b0 + 77) (Int32.toNatClampNeg (((120 : Int32) * x5) + (ea_i h (b0 + 75) (Int32.toNatClampNeg x5)))) x6) (b0 + 75) (Int32.toNatClampNeg x5) ((ea_i (ea_wi h (b0 + 77) (Int32.toNatClampNeg (((120 : Int32) * x5) + (ea_i h (b0 + 75) (Int32.toNatClampNeg x5)))) x6) (b0 + 75) (Int32.toNatClampNeg x5)) + (1 : Int32))) (b0 + 76) (Int32.toNatClampNeg x5)) + (vX12_owed b0 (x6 : Int32) (ea_wi (ea_wi h (b0 + 77) (Int32.toNatClampNeg (((120 : Int32) * x5) + (ea_i h (b0 + 75) (Int32.toNatClampNeg x5)))) x6) (b0 + 75) (Int32.toNatClampNeg x5) ((ea_i (ea_wi h (b0 + 77) (Int32.toNatClampNeg (((120 : Int32) * x5) + (ea_i h (b0 + 75) (Int32.toNatClampNeg x5)))) x6) (b0 + 75) (Int32.toNatClampNeg x5)) + (1 : Int32))))))) : Int32) (ea_wi (ea_wi (ea_wi h (b0 + 77) (Int32.toNatClampNeg (((120 : Int32) * x5) + (ea_i h (b0 + 75) (Int32.toNatClampNeg x5)))) x6) (b0 + 75) (Int32.toNatClampNeg x5) ((ea_i (ea_wi h (b0 + 77) (Int32.toNatClampNeg (((120 : Int32) * x5) + (ea_i h (b0 + 75) (Int32.toNatClampNeg x5)))) x6) (b0 + 75) (Int32.toNatClampNeg x5)) + (1 : Int32))) (b0 + 76) (Int32.toNatClampNeg x5) ((ea_i (ea_wi (ea_wi h (b0 + 77) (Int32.toNatClampNeg (((120 : Int32) * x5) + (ea_i h (b0 + 75) (Int32.toNatClampNeg x5)))) x6) (b0 + 75) (Int32.toNatClampNeg x5) ((ea_i (ea_wi h (b0 + 77) (Int32.toNatClampNeg (((120 : Int32) * x5) + (ea_i h (b0 + 75) (Int32.toNatClampNeg x5)))) x6) (b0 + 75) (Int32.toNatClampNeg x5)) + (1 : Int32))) (b0 + 76) (Int32.toNatClampNeg x5)) + (vX12_owed b0 (x6 : Int32) (ea_wi (ea_wi h (b0 + 77) (Int32.toNatClampNeg (((120 : Int32) * x5) + (ea_i h (b0 + 75) (Int32.toNatClampNeg x5)))) x6) (b0 + 75) (Int32.toNatClampNeg x5) ((ea_i (ea_wi h (b0 + 77) (Int32.toNatClampNeg (((120 : Int32) * x5) + (ea_i h (b0 + 75) (Int32.toNatClampNeg x5)))) x6) (b0 + 75) (Int32.toNatClampNeg x5)) + (1 : Int32))))))) := shX12_turns hs29
          refine ea_iinc (pc := 198) (v := 1) (lv' := [(0, vR (some (b0 + 0))), (3, vI x3), (5, vI x5), (6, vI (x6 + (1 : Int32)))]) dX12_rob_198 3 rfl rfl (Nat.le_of_ble_eq_true rfl) [1, 2, 3, 0] rfl ?_
          refine ea_goto (pc := 201) (tgt := 104) dX12_rob_201 rfl ?_
          exact ((ih 104 0 0 (x3 : Int32) (x5 : Int32) ((x6 + (1 : Int32)) : Int32) (wX12_turns b0 (x6 : Int32) ((ea_i (ea_wi (ea_wi (ea_wi h (b0 + 77) (Int32.toNatClampNeg (((120 : Int32) * x5) + (ea_i h (b0 + 75) (Int32.toNatClampNeg x5)))) x6) (b0 + 75) (Int32.toNatClampNeg x5) ((ea_i (ea_wi h (b0 + 77) (Int32.toNatClampNeg (((120 : Int32) * x5) + (ea_i h (b0 + 75) (Int32.toNatClampNeg x5)))) x6) (b0 + 75) (Int32.toNatClampNeg x5)) + (1 : Int32))) (b0 + 76) (Int32.toNatClampNeg x5) ((ea_i (ea_wi (ea_wi h (b0 + 77) (Int32.toNatClampNeg (((120 : Int32) * x5) + (ea_i h (b0 + 75) (Int32.toNatClampNeg x5)))) x6) (b0 + 75) (Int32.toNatClampNeg x5) ((ea_i (ea_wi h (b0 + 77) (Int32.toNatClampNeg (((120 : Int32) * x5) + (ea_i h (b0 + 75) (Int32.toNatClampNeg x5)))) x6) (b0 + 75) (Int32.toNatClampNeg x5)) + (1 : Int32))) (b0 + 76) (Int32.toNatClampNeg x5)) + (vX12_owed b0 (x6 : Int32) (ea_wi (ea_wi h (b0 + 77) (Int32.toNatClampNeg (((120 : Int32) * x5) + (ea_i h (b0 + 75) (Int32.toNatClampNeg x5)))) x6) (b0 + 75) (Int32.toNatClampNeg x5) ((ea_i (ea_wi h (b0 + 77) (Int32.toNatClampNeg (((120 : Int32) * x5) + (ea_i h (b0 + 75) (Int32.toNatClampNeg x5)))) x6) (b0 + 75) (Int32.toNatClampNeg x5)) + (1 : Int32)))))) (b0 + 0) 0) : Int32) (4 : Int32) ((vX12_code (x3 : Int32) (ea_wi (ea_wi (ea_wi h (b0 + 77) (Int32.toNatClampNeg (((120 : Int32) * x5) + (ea_i h (b0 + 75) (Int32.toNatClampNeg x5)))) x6) (b0 + 75) (Int32.toNatClampNeg x5) ((ea_i (ea_wi h (b0 + 77) (Int32.toNatClampNeg (((120 : Int32) * x5) + (ea_i h (b0 + 75) (Int32.toNatClampNeg x5)))) x6) (b0 + 75) (Int32.toNatClampNeg x5)) + (1 : Int32))) (b0 + 76) (Int32.toNatClampNeg x5) ((ea_i (ea_wi (ea_wi h (b0 + 77) (Int32.toNatClampNeg (((120 : Int32) * x5) + (ea_i h (b0 + 75) (Int32.toNatClampNeg x5)))) x6) (b0 + 75) (Int32.toNatClampNeg x5) ((ea_i (ea_wi h (b0 + 77) (Int32.toNatClampNeg (((120 : Int32) * x5) + (ea_i h (b0 + 75) (Int32.toNatClampNeg x5)))) x6) (b0 + 75) (Int32.toNatClampNeg x5)) + (1 : Int32))) (b0 + 76) (Int32.toNatClampNeg x5)) + (vX12_owed b0 (x6 : Int32) (ea_wi (ea_wi h (b0 + 77) (Int32.toNatClampNeg (((120 : Int32) * x5) + (ea_i h (b0 + 75) (Int32.toNatClampNeg x5)))) x6) (b0 + 75) (Int32.toNatClampNeg x5) ((ea_i (ea_wi h (b0 + 77) (Int32.toNatClampNeg (((120 : Int32) * x5) + (ea_i h (b0 + 75) (Int32.toNatClampNeg x5)))) x6) (b0 + 75) (Int32.toNatClampNeg x5)) + (1 : Int32))))))) : Int32) (ea_wi (ea_wi (ea_wi h (b0 + 77) (Int32.toNatClampNeg (((120 : Int32) * x5) + (ea_i h (b0 + 75) (Int32.toNatClampNeg x5)))) x6) (b0 + 75) (Int32.toNatClampNeg x5) ((ea_i (ea_wi h (b0 + 77) (Int32.toNatClampNeg (((120 : Int32) * x5) + (ea_i h (b0 + 75) (Int32.toNatClampNeg x5)))) x6) (b0 + 75) (Int32.toNatClampNeg x5)) + (1 : Int32))) (b0 + 76) (Int32.toNatClampNeg x5) ((ea_i (ea_wi (ea_wi h (b0 + 77) (Int32.toNatClampNeg (((120 : Int32) * x5) + (ea_i h (b0 + 75) (Int32.toNatClampNeg x5)))) x6) (b0 + 75) (Int32.toNatClampNeg x5) ((ea_i (ea_wi h (b0 + 77) (Int32.toNatClampNeg (((120 : Int32) * x5) + (ea_i h (b0 + 75) (Int32.toNatClampNeg x5)))) x6) (b0 + 75) (Int32.toNatClampNeg x5)) + (1 : Int32))) (b0 + 76) (Int32.toNatClampNeg x5)) + (vX12_owed b0 (x6 : Int32) (ea_wi (ea_wi h (b0 + 77) (Int32.toNatClampNeg (((120 : Int32) * x5) + (ea_i h (b0 + 75) (Int32.toNatClampNeg x5)))) x6) (b0 + 75) (Int32.toNatClampNeg x5) ((ea_i (ea_wi h (b0 + 77) (Int32.toNatClampNeg (((120 : Int32) * x5) + (ea_i h (b0 + 75) (Int32.toNatClampNeg x5)))) x6) (b0 + 75) (Int32.toNatClampNeg x5)) + (1 : Int32))))))) _ _ E hs32).2 rfl)
        · have E := (if_pos c33).symm.trans E
          refine ea_goto (pc := 133) (tgt := 198) dX12_rob_133 rfl ?_
          refine ea_iinc (pc := 198) (v := 1) (lv' := [(0, vR (some (b0 + 0))), (3, vI x3), (5, vI x5), (6, vI (x6 + (1 : Int32)))]) dX12_rob_198 3 rfl rfl (Nat.le_of_ble_eq_true rfl) [1, 2, 3, 0] rfl ?_
          refine ea_goto (pc := 201) (tgt := 104) dX12_rob_201 rfl ?_
          exact ((ih 104 0 0 (x3 : Int32) (x5 : Int32) ((x6 + (1 : Int32)) : Int32) h _ _ E hs).2 rfl)
noncomputable def qX12_rob (b0 : Nat) (x1 : Int32) (x2 : Int32) (h : ea_H) : Option (Int32 × ea_H) := gX12_rob b0 1000000000 0 x1 x2 0 0 0 h
def okX12_rob (b0 : Nat) (x1 : Int32) (x2 : Int32) (h : ea_H) : Prop := ∃ x, qX12_rob b0 x1 x2 h = some x
noncomputable def vX12_rob (b0 : Nat) (x1 : Int32) (x2 : Int32) (h : ea_H) : Int32 := ((qX12_rob b0 x1 x2 h).getD (0, h)).1
noncomputable def wX12_rob (b0 : Nat) (x1 : Int32) (x2 : Int32) (h : ea_H) : ea_H := ((qX12_rob b0 x1 x2 h).getD (0, h)).2
theorem sX12_rob {d : Nat} {b0 : Nat} {x1 : Int32} {x2 : Int32} {h : ea_H} (hd : 3 ≤ d) (hs : ShM b0 h) (K : okX12_rob b0 x1 x2 h) : ea_Met mX12_rob d [vR (some (b0 + 0)), vI x1, vI x2] h (some (vI (vX12_rob b0 x1 x2 h))) (wX12_rob b0 x1 x2 h) := by
  obtain ⟨⟨x, y⟩, K⟩ := K
  unfold wX12_rob vX12_rob
  rw [K]
  unfold qX12_rob at K
  exact ea_enter rfl (Nat.le_of_ble_eq_true rfl) ((tX12_rob hd 1000000000 0 x1 x2 0 0 0 h x y K hs).1 rfl)
theorem zX12_rob {b0 : Nat} : ∀ (f lbl : Nat) (x1 : Int32) (x2 : Int32) (x3 : Int32) (x5 : Int32) (x6 : Int32) (h : ea_H) (r : Int32) (h' : ea_H), gX12_rob b0 f lbl x1 x2 x3 x5 x6 h = some (r, h') → ShM b0 h → ShM b0 h' := by
  intro f
  induction f with
  | zero => intro lbl x1 x2 x3 x5 x6 h r h' E; cases E
  | succ f ih =>
    intro lbl x1 x2 x3 x5 x6 h r h' E hs
    unfold gX12_rob at E
    by_cases el0 : lbl = 0
    · have E := (if_pos el0).symm.trans E
      by_cases c17 : (vX12_isTrain b0 (x1 : Int32) h) = (0 : Int32)
      · have E := (if_pos c17).symm.trans E
        exact ea_shO E hs
      have E := (if_neg c17).symm.trans E
      by_cases c16 : (vX12_isDay (x2 : Int32) h) = (0 : Int32)
      · have E := (if_pos c16).symm.trans E
        exact ea_shO E hs
      have E := (if_neg c16).symm.trans E
      by_cases c15 : (ea_i h (b0 + 0) 100) = (20 : Int32)
      · have E := (if_pos c15).symm.trans E
        exact ea_shO E hs
      have E := (if_neg c15).symm.trans E
      obtain ⟨z4, E⟩ := gd_some E
      by_cases c14 : (vX12_gone b0 ((vX12_run (x1 : Int32) (x2 : Int32) h) : Int32) h) = ((-1) : Int32)
      · have E := (if_pos c14).symm.trans E
        exact ea_shO E (shX12_gone hs)
      have E := (if_neg c14).symm.trans E
      obtain ⟨z6, E⟩ := gd_some E
      by_cases c13 : (ea_i (wX12_gone b0 ((vX12_run (x1 : Int32) (x2 : Int32) h) : Int32) h) (b0 + 0) 0) < (vX12_comesAt b0 ((vX12_run (x1 : Int32) (x2 : Int32) h) : Int32) (((vX12_gone b0 ((vX12_run (x1 : Int32) (x2 : Int32) h) : Int32) h) + (1 : Int32)) : Int32) (wX12_gone b0 ((vX12_run (x1 : Int32) (x2 : Int32) h) : Int32) h))
      · have E := (if_pos c13).symm.trans E
        obtain ⟨z9, E⟩ := gd_some E
        obtain ⟨z11, E⟩ := gd_some E
        exact ih 104 0 0 ((vX12_run (x1 : Int32) (x2 : Int32) h) : Int32) ((ea_i (wX12_gone b0 ((vX12_run (x1 : Int32) (x2 : Int32) h) : Int32) h) (b0 + 0) 100) : Int32) (0 : Int32) (ea_wi (ea_wi (ea_wi (wX12_gone b0 ((vX12_run (x1 : Int32) (x2 : Int32) h) : Int32) h) (b0 + 0) 100 ((ea_i (wX12_gone b0 ((vX12_run (x1 : Int32) (x2 : Int32) h) : Int32) h) (b0 + 0) 100) + (1 : Int32))) (b0 + 73) (Int32.toNatClampNeg (ea_i (wX12_gone b0 ((vX12_run (x1 : Int32) (x2 : Int32) h) : Int32) h) (b0 + 0) 100)) (vX12_code ((vX12_run (x1 : Int32) (x2 : Int32) h) : Int32) (ea_wi (wX12_gone b0 ((vX12_run (x1 : Int32) (x2 : Int32) h) : Int32) h) (b0 + 0) 100 ((ea_i (wX12_gone b0 ((vX12_run (x1 : Int32) (x2 : Int32) h) : Int32) h) (b0 + 0) 100) + (1 : Int32))))) (b0 + 74) (Int32.toNatClampNeg (ea_i (wX12_gone b0 ((vX12_run (x1 : Int32) (x2 : Int32) h) : Int32) h) (b0 + 0) 100)) (ea_i (ea_wi (ea_wi (wX12_gone b0 ((vX12_run (x1 : Int32) (x2 : Int32) h) : Int32) h) (b0 + 0) 100 ((ea_i (wX12_gone b0 ((vX12_run (x1 : Int32) (x2 : Int32) h) : Int32) h) (b0 + 0) 100) + (1 : Int32))) (b0 + 73) (Int32.toNatClampNeg (ea_i (wX12_gone b0 ((vX12_run (x1 : Int32) (x2 : Int32) h) : Int32) h) (b0 + 0) 100)) (vX12_code ((vX12_run (x1 : Int32) (x2 : Int32) h) : Int32) (ea_wi (wX12_gone b0 ((vX12_run (x1 : Int32) (x2 : Int32) h) : Int32) h) (b0 + 0) 100 ((ea_i (wX12_gone b0 ((vX12_run (x1 : Int32) (x2 : Int32) h) : Int32) h) (b0 + 0) 100) + (1 : Int32))))) (b0 + 0) 0)) _ _ E (ShM_wi (ShM_wi (ShM_wi (shX12_gone hs))))
      have E := (if_neg c13).symm.trans E
      exact ea_shO E (shX12_gone hs)
    have E := (if_neg el0).symm.trans E
    by_cases el1 : lbl = 104
    · have E := (if_pos el1).symm.trans E
      by_cases c35 : (ea_i h (b0 + 0) 63) ≤ x6
      · have E := (if_pos c35).symm.trans E
        exact ea_shO E hs
      have E := (if_neg c35).symm.trans E
      obtain ⟨z18, E⟩ := gd_some E
      by_cases c34 : (vX12_isAboard b0 (x6 : Int32) (x3 : Int32) h) = (0 : Int32)
      · have E := (if_pos c34).symm.trans E
        exact ih 104 0 0 (x3 : Int32) (x5 : Int32) ((x6 + (1 : Int32)) : Int32) h _ _ E hs
      have E := (if_neg c34).symm.trans E
      obtain ⟨z19, E⟩ := gd_some E
      by_cases c33 : (ea_i h (b0 + 61) (Int32.toNatClampNeg x6)) = (0 : Int32)
      · have E := (if_pos c33).symm.trans E
        exact ih 104 0 0 (x3 : Int32) (x5 : Int32) ((x6 + (1 : Int32)) : Int32) h _ _ E hs
      have E := (if_neg c33).symm.trans E
      obtain ⟨z20, E⟩ := gd_some E
      obtain ⟨z21, E⟩ := gd_some E
      obtain ⟨z23, E⟩ := gd_some E
      obtain ⟨z24, E⟩ := gd_some E
      obtain ⟨z26, E⟩ := gd_some E
      obtain ⟨z27, E⟩ := gd_some E
      obtain ⟨z28, E⟩ := gd_some E
      obtain ⟨z31, E⟩ := gd_some E
      exact ih 104 0 0 (x3 : Int32) (x5 : Int32) ((x6 + (1 : Int32)) : Int32) (wX12_turns b0 (x6 : Int32) ((ea_i (ea_wi (ea_wi (ea_wi h (b0 + 77) (Int32.toNatClampNeg (((120 : Int32) * x5) + (ea_i h (b0 + 75) (Int32.toNatClampNeg x5)))) x6) (b0 + 75) (Int32.toNatClampNeg x5) ((ea_i (ea_wi h (b0 + 77) (Int32.toNatClampNeg (((120 : Int32) * x5) + (ea_i h (b0 + 75) (Int32.toNatClampNeg x5)))) x6) (b0 + 75) (Int32.toNatClampNeg x5)) + (1 : Int32))) (b0 + 76) (Int32.toNatClampNeg x5) ((ea_i (ea_wi (ea_wi h (b0 + 77) (Int32.toNatClampNeg (((120 : Int32) * x5) + (ea_i h (b0 + 75) (Int32.toNatClampNeg x5)))) x6) (b0 + 75) (Int32.toNatClampNeg x5) ((ea_i (ea_wi h (b0 + 77) (Int32.toNatClampNeg (((120 : Int32) * x5) + (ea_i h (b0 + 75) (Int32.toNatClampNeg x5)))) x6) (b0 + 75) (Int32.toNatClampNeg x5)) + (1 : Int32))) (b0 + 76) (Int32.toNatClampNeg x5)) + (vX12_owed b0 (x6 : Int32) (ea_wi (ea_wi h (b0 + 77) (Int32.toNatClampNeg (((120 : Int32) * x5) + (ea_i h (b0 + 75) (Int32.toNatClampNeg x5)))) x6) (b0 + 75) (Int32.toNatClampNeg x5) ((ea_i (ea_wi h (b0 + 77) (Int32.toNatClampNeg (((120 : Int32) * x5) + (ea_i h (b0 + 75) (Int32.toNatClampNeg x5)))) x6) (b0 + 75) (Int32.toNatClampNeg x5)) + (1 : Int32)))))) (b0 + 0) 0) : Int32) (4 : Int32) ((vX12_code (x3 : Int32) (ea_wi (ea_wi (ea_wi h (b0 + 77) (Int32.toNatClampNeg (((120 : Int32) * x5) + (ea_i h (b0 + 75) (Int32.toNatClampNeg x5)))) x6) (b0 + 75) (Int32.toNatClampNeg x5) ((ea_i (ea_wi h (b0 + 77) (Int32.toNatClampNeg (((120 : Int32) * x5) + (ea_i h (b0 + 75) (Int32.toNatClampNeg x5)))) x6) (b0 + 75) (Int32.toNatClampNeg x5)) + (1 : Int32))) (b0 + 76) (Int32.toNatClampNeg x5) ((ea_i (ea_wi (ea_wi h (b0 + 77) (Int32.toNatClampNeg (((120 : Int32) * x5) + (ea_i h (b0 + 75) (Int32.toNatClampNeg x5)))) x6) (b0 + 75) (Int32.toNatClampNeg x5) ((ea_i (ea_wi h (b0 + 77) (Int32.toNatClampNeg (((120 : Int32) * x5) + (ea_i h (b0 + 75) (Int32.toNatClampNeg x5)))) x6) (b0 + 75) (Int32.toNatClampNeg x5)) + (1 : Int32))) (b0 + 76) (Int32.toNatClampNeg x5)) + (vX12_owed b0 (x6 : Int32) (ea_wi (ea_wi h (b0 + 77) (Int32.toNatClampNeg (((120 : Int32) * x5) + (ea_i h (b0 + 75) (Int32.toNatClampNeg x5)))) x6) (b0 + 75) (Int32.toNatClampNeg x5) ((ea_i (ea_wi h (b0 + 77) (Int32.toNatClampNeg (((120 : Int32) * x5) + (ea_i h (b0 + 75) (Int32.toNatClampNeg x5)))) x6) (b0 + 75) (Int32.toNatClampNeg x5)) + (1 : Int32))))))) : Int32) (ea_wi (ea_wi (ea_wi h (b0 + 77) (Int32.toNatClampNeg (((120 : Int32) * x5) + (ea_i h (b0 + 75) (Int32.toNatClampNeg x5)))) x6) (b0 + 75) (Int32.toNatClampNeg x5) ((ea_i (ea_wi h (b0 + 77) (Int32.toNatClampNeg (((120 : Int32) * x5) + (ea_i h (b0 + 75) (Int32.toNatClampNeg x5)))) x6) (b0 + 75) (Int32.toNatClampNeg x5)) + (1 : Int32))) (b0 + 76) (Int32.toNatClampNeg x5) ((ea_i (ea_wi (ea_wi h (b0 + 77) (Int32.toNatClampNeg (((120 : Int32) * x5) + (ea_i h (b0 + 75) (Int32.toNatClampNeg x5)))) x6) (b0 + 75) (Int32.toNatClampNeg x5) ((ea_i (ea_wi h (b0 + 77) (Int32.toNatClampNeg (((120 : Int32) * x5) + (ea_i h (b0 + 75) (Int32.toNatClampNeg x5)))) x6) (b0 + 75) (Int32.toNatClampNeg x5)) + (1 : Int32))) (b0 + 76) (Int32.toNatClampNeg x5)) + (vX12_owed b0 (x6 : Int32) (ea_wi (ea_wi h (b0 + 77) (Int32.toNatClampNeg (((120 : Int32) * x5) + (ea_i h (b0 + 75) (Int32.toNatClampNeg x5)))) x6) (b0 + 75) (Int32.toNatClampNeg x5) ((ea_i (ea_wi h (b0 + 77) (Int32.toNatClampNeg (((120 : Int32) * x5) + (ea_i h (b0 + 75) (Int32.toNatClampNeg x5)))) x6) (b0 + 75) (Int32.toNatClampNeg x5)) + (1 : Int32))))))) _ _ E (shX12_turns (ShM_wi (ShM_wi (ShM_wi hs))))
    have E := (if_neg el1).symm.trans E
    cases E
theorem shX12_rob {b0 : Nat} {x1 : Int32} {x2 : Int32} {h : ea_H} (hs : ShM b0 h) : ShM b0 (wX12_rob b0 x1 x2 h) := by
  unfold wX12_rob
  cases K : qX12_rob b0 x1 x2 h with
  | none => exact hs
  | some x => obtain ⟨x, y⟩ := x; unfold qX12_rob at K; exact zX12_rob _ _ _ _ _ _ _ _ _ _ K hs
noncomputable def gX12_seen (b0 : Nat) : Nat → Nat → Int32 → Int32 → Int32 → Int32 → Int32 → Int32 → ea_H → Option (Int32 × ea_H)
  | 0, _, _, _, _, _, _, _, _ => none
  | f + 1, lbl, sx0, x1, x2, x3, x4, x5, h =>
    if lbl = 0 then (if (vX12_isTrain b0 (x1 : Int32) h) = (0 : Int32) then (some ((0 : Int32), h)) else (if (vX12_isMinute (x2 : Int32) h) = (0 : Int32) then (some ((0 : Int32), h)) else (gd (vp_in x1 10) (gd (vp_in x1 10) (gd (vp_in x1 10) (gX12_seen b0 f 44 0 (x1 : Int32) (x2 : Int32) (((ea_i h (b0 + 79) (Int32.toNatClampNeg x1)) + (1 : Int32)) : Int32) (((ea_i h (b0 + 78) (Int32.toNatClampNeg x1)) - (1 : Int32)) : Int32) ((ea_i h (b0 + 78) (Int32.toNatClampNeg x1)) : Int32) h)))))) else
    if lbl = 44 then (gd (vp_in x1 10) (if (ea_i h (b0 + 79) (Int32.toNatClampNeg x1)) < x5 then (if x3 ≤ x4 then (gd (vp_in x1 10) (gd (vp_in x1 10) (some ((1 : Int32), (ea_wi (ea_wi h (b0 + 78) (Int32.toNatClampNeg x1) x3) (b0 + 79) (Int32.toNatClampNeg x1) x4))))) else (some ((0 : Int32), h))) else (gd ((okX12_shows b0 (x1 : Int32) (x5 : Int32) ((ea_i h (b0 + 0) 0) : Int32) h)) (if (vX12_shows b0 (x1 : Int32) (x5 : Int32) ((ea_i h (b0 + 0) 0) : Int32) h) = x2 then (if x3 ≤ x5 then (gX12_seen b0 f 85 (x3 : Int32) (x1 : Int32) (x2 : Int32) 0 (x4 : Int32) (x5 : Int32) h) else (gX12_seen b0 f 85 (x5 : Int32) (x1 : Int32) (x2 : Int32) 0 (x4 : Int32) (x5 : Int32) h)) else (gX12_seen b0 f 44 0 (x1 : Int32) (x2 : Int32) (x3 : Int32) (x4 : Int32) ((x5 + (1 : Int32)) : Int32) h))))) else
    if lbl = 85 then (if x5 ≤ x4 then (gX12_seen b0 f 44 0 (x1 : Int32) (x2 : Int32) (sx0 : Int32) (x4 : Int32) ((x5 + (1 : Int32)) : Int32) h) else (gX12_seen b0 f 44 0 (x1 : Int32) (x2 : Int32) (sx0 : Int32) (x5 : Int32) ((x5 + (1 : Int32)) : Int32) h)) else none
theorem tX12_seen {d : Nat} {b0 : Nat} {h0 : ea_H} (hd : 3 ≤ d) : ∀ (f lbl : Nat) (sx0 : Int32) (x1 : Int32) (x2 : Int32) (x3 : Int32) (x4 : Int32) (x5 : Int32) (h : ea_H) (r : Int32) (h' : ea_H), gX12_seen b0 f lbl sx0 x1 x2 x3 x4 x5 h = some (r, h') → ShM b0 h → (lbl = 0 → ea_W mX12_seen d h0 (some (vI r)) h' 0 [(0, vR (some (b0 + 0))), (1, vI x1), (2, vI x2)] [] h) ∧ (lbl = 44 → ea_W mX12_seen d h0 (some (vI r)) h' 44 [(0, vR (some (b0 + 0))), (1, vI x1), (2, vI x2), (3, vI x3), (4, vI x4), (5, vI x5)] [] h) ∧ (lbl = 85 → ea_W mX12_seen d h0 (some (vI r)) h' 85 [(0, vR (some (b0 + 0))), (1, vI x1), (2, vI x2), (4, vI x4), (5, vI x5)] [vI sx0] h) := by
  intro f
  induction f with
  | zero => intro lbl sx0 x1 x2 x3 x4 x5 h r h' E; cases E
  | succ f ih =>
    intro lbl sx0 x1 x2 x3 x4 x5 h r h' E hs
    unfold gX12_seen at E
    refine ⟨?_, ?_⟩
    · intro el
      subst el
      have E := (if_pos rfl).symm.trans E
      refine ea_aload_n (pc := 0) dX12_seen_0 rfl 0 rfl ?_
      refine ea_iload_n (pc := 1) dX12_seen_1 rfl 1 rfl ?_
      refine ea_callV (pc := 2) (d' := d - 1) (As := [vI x1]) (st := []) dX12_seen_2 kX12_isTrain (sX12_isTrain (d := d - 1) (by omega) hs) (by omega) rfl (Nat.le_of_ble_eq_true rfl) ew_1736 ew_1738 ew_50 (ci := 12) rfl (by decide) (hs.1 0 (by decide)).1 (hs.1 0 (by decide)).2.1 ?_
      refine ea_if_eq (pc := 5) (tgt := 15) dX12_seen_5 rfl (fun c7 => ?_) (fun c7 => ?_)
      · have E := (if_pos c7).symm.trans E
        refine ea_iconst (pc := 15) dX12_seen_15 (v := 0) rfl ?_
        exact ea_iretO (pc := 16) dX12_seen_16 rfl (ea_bn (Or.inl rfl)) E
      · have E := (if_neg c7).symm.trans E
        refine ea_iload_n (pc := 8) dX12_seen_8 rfl 2 rfl ?_
        refine ea_callS (pc := 9) (d' := d - 1) (As := [vI x2]) (st := []) dX12_seen_9 kX12_isMinute (sX12_isMinute (d := d - 1) (by omega)) (by omega) rfl (Nat.le_of_ble_eq_true rfl) ew_2147 ew_2148 ?_
        refine ea_if_ne (pc := 12) (tgt := 17) dX12_seen_12 rfl (fun c6 => ?_) (fun c6 => ?_)
        · have E := (if_neg c6).symm.trans E
          refine ea_aload_n (pc := 17) dX12_seen_17 rfl 0 rfl ?_
          refine ea_getR (pc := 18) dX12_seen_18 ec_12 (k := 107) (Nat.le_of_ble_eq_true rfl) rfl (Or.inl ew_1452) (hs.1 0 (by decide)).1 (hs.1 0 (by decide)).2.1 (hs.2 0 107 rfl) ?_
          refine ea_iload_n (pc := 21) dX12_seen_21 rfl 1 rfl ?_
          obtain ⟨z3, E⟩ := gd_some E
          refine ea_iald (pc := 22) dX12_seen_22 (hs.1 79 (by decide)).1 (hs.1 79 (by decide)).2.1 (ea_vpl (hs.1 79 (by decide)).2.2 z3) ?_
          refine ea_iconst (pc := 23) dX12_seen_23 (v := 1) rfl ?_
          refine ea_iadd (pc := 24) dX12_seen_24 ?_
          refine ea_istore_n (pc := 25) (lv' := [(0, vR (some (b0 + 0))), (1, vI x1), (2, vI x2), (3, vI ((ea_i h (b0 + 79) (Int32.toNatClampNeg x1)) + (1 : Int32)))]) dX12_seen_25 rfl (Nat.le_of_ble_eq_true rfl) [1, 2, 3, 0] rfl ?_
          refine ea_aload_n (pc := 26) dX12_seen_26 rfl 0 rfl ?_
          refine ea_getR (pc := 27) dX12_seen_27 ec_12 (k := 106) (Nat.le_of_ble_eq_true rfl) rfl (Or.inl ew_1451) (hs.1 0 (by decide)).1 (hs.1 0 (by decide)).2.1 (hs.2 0 106 rfl) ?_
          refine ea_iload_n (pc := 30) dX12_seen_30 rfl 1 rfl ?_
          obtain ⟨z4, E⟩ := gd_some E
          refine ea_iald (pc := 31) dX12_seen_31 (hs.1 78 (by decide)).1 (hs.1 78 (by decide)).2.1 (ea_vpl (hs.1 78 (by decide)).2.2 z4) ?_
          refine ea_iconst (pc := 32) dX12_seen_32 (v := 1) rfl ?_
          refine ea_isub (pc := 33) dX12_seen_33 ?_
          refine ea_istore (pc := 34) (lv' := [(0, vR (some (b0 + 0))), (1, vI x1), (2, vI x2), (3, vI ((ea_i h (b0 + 79) (Int32.toNatClampNeg x1)) + (1 : Int32))), (4, vI ((ea_i h (b0 + 78) (Int32.toNatClampNeg x1)) - (1 : Int32)))]) dX12_seen_34 (Nat.le_of_ble_eq_true rfl) [1, 2, 3, 4, 0] rfl ?_
          refine ea_aload_n (pc := 36) dX12_seen_36 rfl 0 rfl ?_
          refine ea_getR (pc := 37) dX12_seen_37 ec_12 (k := 106) (Nat.le_of_ble_eq_true rfl) rfl (Or.inl ew_1451) (hs.1 0 (by decide)).1 (hs.1 0 (by decide)).2.1 (hs.2 0 106 rfl) ?_
          refine ea_iload_n (pc := 40) dX12_seen_40 rfl 1 rfl ?_
          obtain ⟨z5, E⟩ := gd_some E
          refine ea_iald (pc := 41) dX12_seen_41 (hs.1 78 (by decide)).1 (hs.1 78 (by decide)).2.1 (ea_vpl (hs.1 78 (by decide)).2.2 z5) ?_
          refine ea_istore (pc := 42) (lv' := [(0, vR (some (b0 + 0))), (1, vI x1), (2, vI x2), (3, vI ((ea_i h (b0 + 79) (Int32.toNatClampNeg x1)) + (1 : Int32))), (4, vI ((ea_i h (b0 + 78) (Int32.toNatClampNeg x1)) - (1 : Int32))), (5, vI (ea_i h (b0 + 78) (Int32.toNatClampNeg x1)))]) dX12_seen_42 (Nat.le_of_ble_eq_true rfl) [1, 2, 3, 4, 5, 0] rfl ?_
          exact ((ih 44 0 (x1 : Int32) (x2 : Int32) (((ea_i h (b0 + 79) (Int32.toNatClampNeg x1)) + (1 : Int32)) : Int32) (((ea_i h (b0 + 78) (Int32.toNatClampNeg x1)) - (1 : Int32)) : Int32) ((ea_i h (b0 + 78) (Int32.toNatClampNeg x1)) : Int32) h _ _ E hs).2.1 rfl)
        · have E := (if_pos c6).symm.trans E
          refine ea_iconst (pc := 15) dX12_seen_15 (v := 0) rfl ?_
          exact ea_iretO (pc := 16) dX12_seen_16 rfl (ea_bn (Or.inl rfl)) E
    refine ⟨?_, ?_⟩
    · intro el
      subst el
      have E := (if_neg (by decide)).symm.trans E
      have E := (if_pos rfl).symm.trans E
      refine ea_iload (pc := 44) dX12_seen_44 5 rfl ?_
      refine ea_aload_n (pc := 46) dX12_seen_46 rfl 0 rfl ?_
      refine ea_getR (pc := 47) dX12_seen_47 ec_12 (k := 107) (Nat.le_of_ble_eq_true rfl) rfl (Or.inl ew_1452) (hs.1 0 (by decide)).1 (hs.1 0 (by decide)).2.1 (hs.2 0 107 rfl) ?_
      refine ea_iload_n (pc := 50) dX12_seen_50 rfl 1 rfl ?_
      obtain ⟨z8, E⟩ := gd_some E
      refine ea_iald (pc := 51) dX12_seen_51 (hs.1 79 (by decide)).1 (hs.1 79 (by decide)).2.1 (ea_vpl (hs.1 79 (by decide)).2.2 z8) ?_
      refine ea_icmp_gt (pc := 52) (tgt := 108) dX12_seen_52 rfl (fun c17 => ?_) (fun c17 => ?_)
      · have E := (if_pos c17).symm.trans E
        refine ea_iload_n (pc := 108) dX12_seen_108 rfl 3 rfl ?_
        refine ea_iload (pc := 109) dX12_seen_109 4 rfl ?_
        refine ea_icmp_le (pc := 111) (tgt := 116) dX12_seen_111 rfl (fun c13 => ?_) (fun c13 => ?_)
        · have E := (if_pos c13).symm.trans E
          refine ea_aload_n (pc := 116) dX12_seen_116 rfl 0 rfl ?_
          refine ea_getR (pc := 117) dX12_seen_117 ec_12 (k := 106) (Nat.le_of_ble_eq_true rfl) rfl (Or.inl ew_1451) (hs.1 0 (by decide)).1 (hs.1 0 (by decide)).2.1 (hs.2 0 106 rfl) ?_
          refine ea_iload_n (pc := 120) dX12_seen_120 rfl 1 rfl ?_
          refine ea_iload_n (pc := 121) dX12_seen_121 rfl 3 rfl ?_
          obtain ⟨z9, E⟩ := gd_some E
          refine ea_iast (pc := 122) dX12_seen_122 (hs.1 78 (by decide)).1 (hs.1 78 (by decide)).2.1 (ea_vpl (hs.1 78 (by decide)).2.2 z9) ?_
          have hs10 : ShM b0 (ea_wi h (b0 + 78) (Int32.toNatClampNeg x1) x3) := ShM_wi hs
          refine ea_aload_n (pc := 123) dX12_seen_123 rfl 0 rfl ?_
          refine ea_getR (pc := 124) dX12_seen_124 ec_12 (k := 107) (Nat.le_of_ble_eq_true rfl) rfl (Or.inl ew_1452) (hs10.1 0 (by decide)).1 (hs10.1 0 (by decide)).2.1 (hs10.2 0 107 rfl) ?_
          refine ea_iload_n (pc := 127) dX12_seen_127 rfl 1 rfl ?_
          refine ea_iload (pc := 128) dX12_seen_128 4 rfl ?_
          obtain ⟨z11, E⟩ := gd_some E
          refine ea_iast (pc := 130) dX12_seen_130 (hs10.1 79 (by decide)).1 (hs10.1 79 (by decide)).2.1 (ea_vpl (hs10.1 79 (by decide)).2.2 z11) ?_
          have hs12 : ShM b0 (ea_wi (ea_wi h (b0 + 78) (Int32.toNatClampNeg x1) x3) (b0 + 79) (Int32.toNatClampNeg x1) x4) := ShM_wi hs10
          refine ea_iconst (pc := 131) dX12_seen_131 (v := 1) rfl ?_
          exact ea_iretO (pc := 132) dX12_seen_132 rfl (ea_bn (Or.inr rfl)) E
        · have E := (if_neg c13).symm.trans E
          refine ea_iconst (pc := 114) dX12_seen_114 (v := 0) rfl ?_
          exact ea_iretO (pc := 115) dX12_seen_115 rfl (ea_bn (Or.inl rfl)) E
      · have E := (if_neg c17).symm.trans E
        refine ea_aload_n (pc := 55) dX12_seen_55 rfl 0 rfl ?_
        refine ea_iload_n (pc := 56) dX12_seen_56 rfl 1 rfl ?_
        refine ea_iload (pc := 57) dX12_seen_57 5 rfl ?_
        refine ea_aload_n (pc := 59) dX12_seen_59 rfl 0 rfl ?_
        refine ea_getI (pc := 60) dX12_seen_60 ec_12 (k := 0) (Nat.le_of_ble_eq_true rfl) rfl (Or.inl ew_1345) (hs.1 0 (by decide)).1 (hs.1 0 (by decide)).2.1 ?_
        obtain ⟨z14, E⟩ := gd_some E
        refine ea_callV (pc := 63) (d' := d - 1) (As := [vI x1, vI x5, vI (ea_i h (b0 + 0) 0)]) (st := []) dX12_seen_63 kX12_shows (sX12_shows (d := d - 1) (by omega) hs z14) (by omega) rfl (Nat.le_of_ble_eq_true rfl) ew_2150 ew_2152 ew_102 (ci := 12) rfl (by decide) (hs.1 0 (by decide)).1 (hs.1 0 (by decide)).2.1 ?_
        refine ea_iload_n (pc := 66) dX12_seen_66 rfl 2 rfl ?_
        refine ea_icmp_eq (pc := 67) (tgt := 73) dX12_seen_67 rfl (fun c16 => ?_) (fun c16 => ?_)
        · have E := (if_pos c16).symm.trans E
          refine ea_iload (pc := 73) dX12_seen_73 5 rfl ?_
          refine ea_iload_n (pc := 75) dX12_seen_75 rfl 3 rfl ?_
          refine ea_icmp_ge (pc := 76) (tgt := 84) dX12_seen_76 rfl (fun c15 => ?_) (fun c15 => ?_)
          · have E := (if_pos c15).symm.trans E
            refine ea_iload_n (pc := 84) dX12_seen_84 rfl 3 rfl ?_
            exact (ea_fewer [0, 1, 2, 4, 5] rfl ((ih 85 (x3 : Int32) (x1 : Int32) (x2 : Int32) 0 (x4 : Int32) (x5 : Int32) h _ _ E hs).2.2 rfl))
          · have E := (if_neg c15).symm.trans E
            refine ea_iload (pc := 79) dX12_seen_79 5 rfl ?_
            refine ea_goto (pc := 81) (tgt := 85) dX12_seen_81 rfl ?_
            exact (ea_fewer [0, 1, 2, 4, 5] rfl ((ih 85 (x5 : Int32) (x1 : Int32) (x2 : Int32) 0 (x4 : Int32) (x5 : Int32) h _ _ E hs).2.2 rfl))
        · have E := (if_neg c16).symm.trans E
          refine ea_goto (pc := 70) (tgt := 102) dX12_seen_70 rfl ?_
          refine ea_iinc (pc := 102) (v := 1) (lv' := [(0, vR (some (b0 + 0))), (1, vI x1), (2, vI x2), (3, vI x3), (4, vI x4), (5, vI (x5 + (1 : Int32)))]) dX12_seen_102 5 rfl rfl (Nat.le_of_ble_eq_true rfl) [1, 2, 3, 4, 5, 0] rfl ?_
          refine ea_goto (pc := 105) (tgt := 44) dX12_seen_105 rfl ?_
          exact ((ih 44 0 (x1 : Int32) (x2 : Int32) (x3 : Int32) (x4 : Int32) ((x5 + (1 : Int32)) : Int32) h _ _ E hs).2.1 rfl)
    intro el
    subst el
    have E := (if_neg (by decide)).symm.trans E
    have E := (if_neg (by decide)).symm.trans E
    have E := (if_pos rfl).symm.trans E
    refine ea_istore_n (pc := 85) (lv' := [(0, vR (some (b0 + 0))), (1, vI x1), (2, vI x2), (3, vI sx0), (4, vI x4), (5, vI x5)]) dX12_seen_85 rfl (Nat.le_of_ble_eq_true rfl) [1, 2, 3, 0, 4, 5] rfl ?_
    refine ea_iload (pc := 86) dX12_seen_86 5 rfl ?_
    refine ea_iload (pc := 88) dX12_seen_88 4 rfl ?_
    refine ea_icmp_le (pc := 90) (tgt := 98) dX12_seen_90 rfl (fun c18 => ?_) (fun c18 => ?_)
    · have E := (if_pos c18).symm.trans E
      refine ea_iload (pc := 98) dX12_seen_98 4 rfl ?_
      refine ea_istore (pc := 100) (lv' := [(0, vR (some (b0 + 0))), (1, vI x1), (2, vI x2), (3, vI sx0), (4, vI x4), (5, vI x5)]) dX12_seen_100 (Nat.le_of_ble_eq_true rfl) [1, 2, 3, 4, 0, 5] rfl ?_
      refine ea_iinc (pc := 102) (v := 1) (lv' := [(0, vR (some (b0 + 0))), (1, vI x1), (2, vI x2), (3, vI sx0), (4, vI x4), (5, vI (x5 + (1 : Int32)))]) dX12_seen_102 5 rfl rfl (Nat.le_of_ble_eq_true rfl) [1, 2, 3, 4, 5, 0] rfl ?_
      refine ea_goto (pc := 105) (tgt := 44) dX12_seen_105 rfl ?_
      exact ((ih 44 0 (x1 : Int32) (x2 : Int32) (sx0 : Int32) (x4 : Int32) ((x5 + (1 : Int32)) : Int32) h _ _ E hs).2.1 rfl)
    · have E := (if_neg c18).symm.trans E
      refine ea_iload (pc := 93) dX12_seen_93 5 rfl ?_
      refine ea_goto (pc := 95) (tgt := 100) dX12_seen_95 rfl ?_
      refine ea_istore (pc := 100) (lv' := [(0, vR (some (b0 + 0))), (1, vI x1), (2, vI x2), (3, vI sx0), (4, vI x5), (5, vI x5)]) dX12_seen_100 (Nat.le_of_ble_eq_true rfl) [1, 2, 3, 4, 0, 5] rfl ?_
      refine ea_iinc (pc := 102) (v := 1) (lv' := [(0, vR (some (b0 + 0))), (1, vI x1), (2, vI x2), (3, vI sx0), (4, vI x5), (5, vI (x5 + (1 : Int32)))]) dX12_seen_102 5 rfl rfl (Nat.le_of_ble_eq_true rfl) [1, 2, 3, 4, 5, 0] rfl ?_
      refine ea_goto (pc := 105) (tgt := 44) dX12_seen_105 rfl ?_
      exact ((ih 44 0 (x1 : Int32) (x2 : Int32) (sx0 : Int32) (x5 : Int32) ((x5 + (1 : Int32)) : Int32) h _ _ E hs).2.1 rfl)
noncomputable def qX12_seen (b0 : Nat) (x1 : Int32) (x2 : Int32) (h : ea_H) : Option (Int32 × ea_H) := gX12_seen b0 1000000000 0 0 x1 x2 0 0 0 h
def okX12_seen (b0 : Nat) (x1 : Int32) (x2 : Int32) (h : ea_H) : Prop := ∃ x, qX12_seen b0 x1 x2 h = some x
noncomputable def vX12_seen (b0 : Nat) (x1 : Int32) (x2 : Int32) (h : ea_H) : Int32 := ((qX12_seen b0 x1 x2 h).getD (0, h)).1
noncomputable def wX12_seen (b0 : Nat) (x1 : Int32) (x2 : Int32) (h : ea_H) : ea_H := ((qX12_seen b0 x1 x2 h).getD (0, h)).2
theorem sX12_seen {d : Nat} {b0 : Nat} {x1 : Int32} {x2 : Int32} {h : ea_H} (hd : 3 ≤ d) (hs : ShM b0 h) (K : okX12_seen b0 x1 x2 h) : ea_Met mX12_seen d [vR (some (b0 + 0)), vI x1, vI x2] h (some (vI (vX12_seen b0 x1 x2 h))) (wX12_seen b0 x1 x2 h) := by
  obtain ⟨⟨x, y⟩, K⟩ := K
  unfold wX12_seen vX12_seen
  rw [K]
  unfold qX12_seen at K
  exact ea_enter rfl (Nat.le_of_ble_eq_true rfl) ((tX12_seen hd 1000000000 0 0 x1 x2 0 0 0 h x y K hs).1 rfl)
theorem zX12_seen {b0 : Nat} : ∀ (f lbl : Nat) (sx0 : Int32) (x1 : Int32) (x2 : Int32) (x3 : Int32) (x4 : Int32) (x5 : Int32) (h : ea_H) (r : Int32) (h' : ea_H), gX12_seen b0 f lbl sx0 x1 x2 x3 x4 x5 h = some (r, h') → ShM b0 h → ShM b0 h' := by
  intro f
  induction f with
  | zero => intro lbl sx0 x1 x2 x3 x4 x5 h r h' E; cases E
  | succ f ih =>
    intro lbl sx0 x1 x2 x3 x4 x5 h r h' E hs
    unfold gX12_seen at E
    by_cases el0 : lbl = 0
    · have E := (if_pos el0).symm.trans E
      by_cases c7 : (vX12_isTrain b0 (x1 : Int32) h) = (0 : Int32)
      · have E := (if_pos c7).symm.trans E
        exact ea_shO E hs
      have E := (if_neg c7).symm.trans E
      by_cases c6 : (vX12_isMinute (x2 : Int32) h) = (0 : Int32)
      · have E := (if_pos c6).symm.trans E
        exact ea_shO E hs
      have E := (if_neg c6).symm.trans E
      obtain ⟨z3, E⟩ := gd_some E
      obtain ⟨z4, E⟩ := gd_some E
      obtain ⟨z5, E⟩ := gd_some E
      exact ih 44 0 (x1 : Int32) (x2 : Int32) (((ea_i h (b0 + 79) (Int32.toNatClampNeg x1)) + (1 : Int32)) : Int32) (((ea_i h (b0 + 78) (Int32.toNatClampNeg x1)) - (1 : Int32)) : Int32) ((ea_i h (b0 + 78) (Int32.toNatClampNeg x1)) : Int32) h _ _ E hs
    have E := (if_neg el0).symm.trans E
    by_cases el1 : lbl = 44
    · have E := (if_pos el1).symm.trans E
      obtain ⟨z8, E⟩ := gd_some E
      by_cases c17 : (ea_i h (b0 + 79) (Int32.toNatClampNeg x1)) < x5
      · have E := (if_pos c17).symm.trans E
        by_cases c13 : x3 ≤ x4
        · have E := (if_pos c13).symm.trans E
          obtain ⟨z9, E⟩ := gd_some E
          obtain ⟨z11, E⟩ := gd_some E
          exact ea_shO E (ShM_wi (ShM_wi hs))
        have E := (if_neg c13).symm.trans E
        exact ea_shO E hs
      have E := (if_neg c17).symm.trans E
      obtain ⟨z14, E⟩ := gd_some E
      by_cases c16 : (vX12_shows b0 (x1 : Int32) (x5 : Int32) ((ea_i h (b0 + 0) 0) : Int32) h) = x2
      · have E := (if_pos c16).symm.trans E
        by_cases c15 : x3 ≤ x5
        · have E := (if_pos c15).symm.trans E
          exact ih 85 (x3 : Int32) (x1 : Int32) (x2 : Int32) 0 (x4 : Int32) (x5 : Int32) h _ _ E hs
        have E := (if_neg c15).symm.trans E
        exact ih 85 (x5 : Int32) (x1 : Int32) (x2 : Int32) 0 (x4 : Int32) (x5 : Int32) h _ _ E hs
      have E := (if_neg c16).symm.trans E
      exact ih 44 0 (x1 : Int32) (x2 : Int32) (x3 : Int32) (x4 : Int32) ((x5 + (1 : Int32)) : Int32) h _ _ E hs
    have E := (if_neg el1).symm.trans E
    by_cases el2 : lbl = 85
    · have E := (if_pos el2).symm.trans E
      by_cases c18 : x5 ≤ x4
      · have E := (if_pos c18).symm.trans E
        exact ih 44 0 (x1 : Int32) (x2 : Int32) (sx0 : Int32) (x4 : Int32) ((x5 + (1 : Int32)) : Int32) h _ _ E hs
      have E := (if_neg c18).symm.trans E
      exact ih 44 0 (x1 : Int32) (x2 : Int32) (sx0 : Int32) (x5 : Int32) ((x5 + (1 : Int32)) : Int32) h _ _ E hs
    have E := (if_neg el2).symm.trans E
    cases E
theorem shX12_seen {b0 : Nat} {x1 : Int32} {x2 : Int32} {h : ea_H} (hs : ShM b0 h) : ShM b0 (wX12_seen b0 x1 x2 h) := by
  unfold wX12_seen
  cases K : qX12_seen b0 x1 x2 h with
  | none => exact hs
  | some x => obtain ⟨x, y⟩ := x; unfold qX12_seen at K; exact zX12_seen _ _ _ _ _ _ _ _ _ _ _ K hs
noncomputable def gX12_mayShow (b0 : Nat) : Nat → Nat → Int32 → Int32 → Int32 → Int32 → Int32 → ea_H → Option (Int32 × ea_H)
  | 0, _, _, _, _, _, _, _ => none
  | f + 1, lbl, x1, x2, x3, x4, x5, h =>
    if lbl = 0 then (gd (vp_in x1 10) (gX12_mayShow b0 f 11 (x1 : Int32) (x2 : Int32) (x3 : Int32) (0 : Int32) ((ea_i h (b0 + 78) (Int32.toNatClampNeg x1)) : Int32) h)) else
    if lbl = 11 then (gd (vp_in x1 10) (if (ea_i h (b0 + 79) (Int32.toNatClampNeg x1)) < x5 then (gd (x4 = 0 ∨ x4 = 1) ((some (x4, h)))) else (if x4 = (0 : Int32) then (gd ((okX12_shows b0 (x1 : Int32) (x5 : Int32) (x3 : Int32) h)) (if (vX12_shows b0 (x1 : Int32) (x5 : Int32) (x3 : Int32) h) = x2 then (gX12_mayShow b0 f 11 (x1 : Int32) (x2 : Int32) (x3 : Int32) (1 : Int32) ((x5 + (1 : Int32)) : Int32) h) else (gX12_mayShow b0 f 11 (x1 : Int32) (x2 : Int32) (x3 : Int32) (0 : Int32) ((x5 + (1 : Int32)) : Int32) h))) else (gd (x4 = 0 ∨ x4 = 1) ((some (x4, h))))))) else none
theorem tX12_mayShow {d : Nat} {b0 : Nat} {h0 : ea_H} (hd : 2 ≤ d) : ∀ (f lbl : Nat) (x1 : Int32) (x2 : Int32) (x3 : Int32) (x4 : Int32) (x5 : Int32) (h : ea_H) (r : Int32) (h' : ea_H), gX12_mayShow b0 f lbl x1 x2 x3 x4 x5 h = some (r, h') → ShM b0 h → (lbl = 0 → ea_W mX12_mayShow d h0 (some (vI r)) h' 0 [(0, vR (some (b0 + 0))), (1, vI x1), (2, vI x2), (3, vI x3)] [] h) ∧ (lbl = 11 → ea_W mX12_mayShow d h0 (some (vI r)) h' 11 [(0, vR (some (b0 + 0))), (1, vI x1), (2, vI x2), (3, vI x3), (4, vI x4), (5, vI x5)] [] h) := by
  intro f
  induction f with
  | zero => intro lbl x1 x2 x3 x4 x5 h r h' E; cases E
  | succ f ih =>
    intro lbl x1 x2 x3 x4 x5 h r h' E hs
    unfold gX12_mayShow at E
    refine ⟨?_, ?_⟩
    · intro el
      subst el
      have E := (if_pos rfl).symm.trans E
      refine ea_iconst (pc := 0) dX12_mayShow_0 (v := 0) rfl ?_
      refine ea_istore (pc := 1) (lv' := [(0, vR (some (b0 + 0))), (1, vI x1), (2, vI x2), (3, vI x3), (4, vI 0)]) dX12_mayShow_1 (Nat.le_of_ble_eq_true rfl) [1, 2, 3, 4, 0] rfl ?_
      refine ea_aload_n (pc := 3) dX12_mayShow_3 rfl 0 rfl ?_
      refine ea_getR (pc := 4) dX12_mayShow_4 ec_12 (k := 106) (Nat.le_of_ble_eq_true rfl) rfl (Or.inl ew_1451) (hs.1 0 (by decide)).1 (hs.1 0 (by decide)).2.1 (hs.2 0 106 rfl) ?_
      refine ea_iload_n (pc := 7) dX12_mayShow_7 rfl 1 rfl ?_
      obtain ⟨z1, E⟩ := gd_some E
      refine ea_iald (pc := 8) dX12_mayShow_8 (hs.1 78 (by decide)).1 (hs.1 78 (by decide)).2.1 (ea_vpl (hs.1 78 (by decide)).2.2 z1) ?_
      refine ea_istore (pc := 9) (lv' := [(0, vR (some (b0 + 0))), (1, vI x1), (2, vI x2), (3, vI x3), (4, vI 0), (5, vI (ea_i h (b0 + 78) (Int32.toNatClampNeg x1)))]) dX12_mayShow_9 (Nat.le_of_ble_eq_true rfl) [1, 2, 3, 4, 5, 0] rfl ?_
      exact ((ih 11 (x1 : Int32) (x2 : Int32) (x3 : Int32) (0 : Int32) ((ea_i h (b0 + 78) (Int32.toNatClampNeg x1)) : Int32) h _ _ E hs).2 rfl)
    intro el
    subst el
    have E := (if_neg (by decide)).symm.trans E
    have E := (if_pos rfl).symm.trans E
    refine ea_iload (pc := 11) dX12_mayShow_11 5 rfl ?_
    refine ea_aload_n (pc := 13) dX12_mayShow_13 rfl 0 rfl ?_
    refine ea_getR (pc := 14) dX12_mayShow_14 ec_12 (k := 107) (Nat.le_of_ble_eq_true rfl) rfl (Or.inl ew_1452) (hs.1 0 (by decide)).1 (hs.1 0 (by decide)).2.1 (hs.2 0 107 rfl) ?_
    refine ea_iload_n (pc := 17) dX12_mayShow_17 rfl 1 rfl ?_
    obtain ⟨z2, E⟩ := gd_some E
    refine ea_iald (pc := 18) dX12_mayShow_18 (hs.1 79 (by decide)).1 (hs.1 79 (by decide)).2.1 (ea_vpl (hs.1 79 (by decide)).2.2 z2) ?_
    refine ea_icmp_gt (pc := 19) (tgt := 52) dX12_mayShow_19 rfl (fun c8 => ?_) (fun c8 => ?_)
    · have E := (if_pos c8).symm.trans E
      refine ea_iload (pc := 52) dX12_mayShow_52 4 rfl ?_
      obtain ⟨z3, E⟩ := gd_some E
      exact ea_iretO (pc := 54) dX12_mayShow_54 rfl (ea_bn z3) E
    · have E := (if_neg c8).symm.trans E
      refine ea_iload (pc := 22) dX12_mayShow_22 4 rfl ?_
      refine ea_if_ne (pc := 24) (tgt := 52) dX12_mayShow_24 rfl (fun c7 => ?_) (fun c7 => ?_)
      · have E := (if_neg c7).symm.trans E
        refine ea_iload (pc := 52) dX12_mayShow_52 4 rfl ?_
        obtain ⟨z4, E⟩ := gd_some E
        exact ea_iretO (pc := 54) dX12_mayShow_54 rfl (ea_bn z4) E
      · have E := (if_pos c7).symm.trans E
        refine ea_aload_n (pc := 27) dX12_mayShow_27 rfl 0 rfl ?_
        refine ea_iload_n (pc := 28) dX12_mayShow_28 rfl 1 rfl ?_
        refine ea_iload (pc := 29) dX12_mayShow_29 5 rfl ?_
        refine ea_iload_n (pc := 31) dX12_mayShow_31 rfl 3 rfl ?_
        obtain ⟨z5, E⟩ := gd_some E
        refine ea_callV (pc := 32) (d' := d - 1) (As := [vI x1, vI x5, vI x3]) (st := []) dX12_mayShow_32 kX12_shows (sX12_shows (d := d - 1) (by omega) hs z5) (by omega) rfl (Nat.le_of_ble_eq_true rfl) ew_2150 ew_2152 ew_102 (ci := 12) rfl (by decide) (hs.1 0 (by decide)).1 (hs.1 0 (by decide)).2.1 ?_
        refine ea_iload_n (pc := 35) dX12_mayShow_35 rfl 2 rfl ?_
        refine ea_icmp_ne (pc := 36) (tgt := 43) dX12_mayShow_36 rfl (fun c6 => ?_) (fun c6 => ?_)
        · have E := (if_neg c6).symm.trans E
          refine ea_iconst (pc := 43) dX12_mayShow_43 (v := 0) rfl ?_
          refine ea_istore (pc := 44) (lv' := [(0, vR (some (b0 + 0))), (1, vI x1), (2, vI x2), (3, vI x3), (4, vI 0), (5, vI x5)]) dX12_mayShow_44 (Nat.le_of_ble_eq_true rfl) [1, 2, 3, 4, 0, 5] rfl ?_
          refine ea_iinc (pc := 46) (v := 1) (lv' := [(0, vR (some (b0 + 0))), (1, vI x1), (2, vI x2), (3, vI x3), (4, vI 0), (5, vI (x5 + (1 : Int32)))]) dX12_mayShow_46 5 rfl rfl (Nat.le_of_ble_eq_true rfl) [1, 2, 3, 4, 5, 0] rfl ?_
          refine ea_goto (pc := 49) (tgt := 11) dX12_mayShow_49 rfl ?_
          exact ((ih 11 (x1 : Int32) (x2 : Int32) (x3 : Int32) (0 : Int32) ((x5 + (1 : Int32)) : Int32) h _ _ E hs).2 rfl)
        · have E := (if_pos c6).symm.trans E
          refine ea_iconst (pc := 39) dX12_mayShow_39 (v := 1) rfl ?_
          refine ea_goto (pc := 40) (tgt := 44) dX12_mayShow_40 rfl ?_
          refine ea_istore (pc := 44) (lv' := [(0, vR (some (b0 + 0))), (1, vI x1), (2, vI x2), (3, vI x3), (4, vI 1), (5, vI x5)]) dX12_mayShow_44 (Nat.le_of_ble_eq_true rfl) [1, 2, 3, 4, 0, 5] rfl ?_
          refine ea_iinc (pc := 46) (v := 1) (lv' := [(0, vR (some (b0 + 0))), (1, vI x1), (2, vI x2), (3, vI x3), (4, vI 1), (5, vI (x5 + (1 : Int32)))]) dX12_mayShow_46 5 rfl rfl (Nat.le_of_ble_eq_true rfl) [1, 2, 3, 4, 5, 0] rfl ?_
          refine ea_goto (pc := 49) (tgt := 11) dX12_mayShow_49 rfl ?_
          exact ((ih 11 (x1 : Int32) (x2 : Int32) (x3 : Int32) (1 : Int32) ((x5 + (1 : Int32)) : Int32) h _ _ E hs).2 rfl)
noncomputable def qX12_mayShow (b0 : Nat) (x1 : Int32) (x2 : Int32) (x3 : Int32) (h : ea_H) : Option (Int32 × ea_H) := gX12_mayShow b0 1000000000 0 x1 x2 x3 0 0 h
def okX12_mayShow (b0 : Nat) (x1 : Int32) (x2 : Int32) (x3 : Int32) (h : ea_H) : Prop := ∃ x, qX12_mayShow b0 x1 x2 x3 h = some x
noncomputable def vX12_mayShow (b0 : Nat) (x1 : Int32) (x2 : Int32) (x3 : Int32) (h : ea_H) : Int32 := ((qX12_mayShow b0 x1 x2 x3 h).getD (0, h)).1
noncomputable def wX12_mayShow (b0 : Nat) (x1 : Int32) (x2 : Int32) (x3 : Int32) (h : ea_H) : ea_H := ((qX12_mayShow b0 x1 x2 x3 h).getD (0, h)).2
theorem sX12_mayShow {d : Nat} {b0 : Nat} {x1 : Int32} {x2 : Int32} {x3 : Int32} {h : ea_H} (hd : 2 ≤ d) (hs : ShM b0 h) (K : okX12_mayShow b0 x1 x2 x3 h) : ea_Met mX12_mayShow d [vR (some (b0 + 0)), vI x1, vI x2, vI x3] h (some (vI (vX12_mayShow b0 x1 x2 x3 h))) (wX12_mayShow b0 x1 x2 x3 h) := by
  obtain ⟨⟨x, y⟩, K⟩ := K
  unfold wX12_mayShow vX12_mayShow
  rw [K]
  unfold qX12_mayShow at K
  exact ea_enter rfl (Nat.le_of_ble_eq_true rfl) ((tX12_mayShow hd 1000000000 0 x1 x2 x3 0 0 h x y K hs).1 rfl)
theorem zX12_mayShow {b0 : Nat} : ∀ (f lbl : Nat) (x1 : Int32) (x2 : Int32) (x3 : Int32) (x4 : Int32) (x5 : Int32) (h : ea_H) (r : Int32) (h' : ea_H), gX12_mayShow b0 f lbl x1 x2 x3 x4 x5 h = some (r, h') → ShM b0 h → ShM b0 h' := by
  intro f
  induction f with
  | zero => intro lbl x1 x2 x3 x4 x5 h r h' E; cases E
  | succ f ih =>
    intro lbl x1 x2 x3 x4 x5 h r h' E hs
    unfold gX12_mayShow at E
    by_cases el0 : lbl = 0
    · have E := (if_pos el0).symm.trans E
      obtain ⟨z1, E⟩ := gd_some E
      exact ih 11 (x1 : Int32) (x2 : Int32) (x3 : Int32) (0 : Int32) ((ea_i h (b0 + 78) (Int32.toNatClampNeg x1)) : Int32) h _ _ E hs
    have E := (if_neg el0).symm.trans E
    by_cases el1 : lbl = 11
    · have E := (if_pos el1).symm.trans E
      obtain ⟨z2, E⟩ := gd_some E
      by_cases c8 : (ea_i h (b0 + 79) (Int32.toNatClampNeg x1)) < x5
      · have E := (if_pos c8).symm.trans E
        obtain ⟨z3, E⟩ := gd_some E
        exact ea_shO E hs
      have E := (if_neg c8).symm.trans E
      by_cases c7 : x4 = (0 : Int32)
      · have E := (if_pos c7).symm.trans E
        obtain ⟨z5, E⟩ := gd_some E
        by_cases c6 : (vX12_shows b0 (x1 : Int32) (x5 : Int32) (x3 : Int32) h) = x2
        · have E := (if_pos c6).symm.trans E
          exact ih 11 (x1 : Int32) (x2 : Int32) (x3 : Int32) (1 : Int32) ((x5 + (1 : Int32)) : Int32) h _ _ E hs
        have E := (if_neg c6).symm.trans E
        exact ih 11 (x1 : Int32) (x2 : Int32) (x3 : Int32) (0 : Int32) ((x5 + (1 : Int32)) : Int32) h _ _ E hs
      have E := (if_neg c7).symm.trans E
      obtain ⟨z4, E⟩ := gd_some E
      exact ea_shO E hs
    have E := (if_neg el1).symm.trans E
    cases E
theorem shX12_mayShow {b0 : Nat} {x1 : Int32} {x2 : Int32} {x3 : Int32} {h : ea_H} (hs : ShM b0 h) : ShM b0 (wX12_mayShow b0 x1 x2 x3 h) := by
  unfold wX12_mayShow
  cases K : qX12_mayShow b0 x1 x2 x3 h with
  | none => exact hs
  | some x => obtain ⟨x, y⟩ := x; unfold qX12_mayShow at K; exact zX12_mayShow _ _ _ _ _ _ _ _ _ _ K hs
noncomputable def gX12_trueMinute (b0 : Nat) : Nat → Nat → Int32 → Int32 → Int32 → Int32 → Int32 → ea_H → Option (Int32 × ea_H)
  | 0, _, _, _, _, _, _, _ => none
  | f + 1, lbl, x1, x2, x3, x4, x5, h =>
    if lbl = 0 then (if (vX12_isTrain b0 (x1 : Int32) h) = (0 : Int32) then (some (((-1) : Int32), h)) else (if (vX12_isMinute (x2 : Int32) h) = (0 : Int32) then (some (((-1) : Int32), h)) else (if (vX12_isIn (x3 : Int32) (0 : Int32) (1 : Int32) h) = (0 : Int32) then (some (((-1) : Int32), h)) else (gd (vp_in x1 10) (gX12_trueMinute b0 f 37 (x1 : Int32) (x2 : Int32) (x3 : Int32) ((-1) : Int32) ((ea_i h (b0 + 80) (Int32.toNatClampNeg x1)) : Int32) h))))) else
    if lbl = 37 then (if (10079 : Int32) < x5 then (some (x4, h)) else (if x3 = (1 : Int32) then (gX12_trueMinute b0 f 56 (x1 : Int32) (x2 : Int32) (x3 : Int32) (x4 : Int32) (x5 : Int32) h) else (if x4 = ((-1) : Int32) then (gX12_trueMinute b0 f 56 (x1 : Int32) (x2 : Int32) (x3 : Int32) (x4 : Int32) (x5 : Int32) h) else (some (x4, h))))) else
    if lbl = 56 then (gd ((okX12_mayShow b0 (x1 : Int32) (x2 : Int32) (x5 : Int32) h)) (if (vX12_mayShow b0 (x1 : Int32) (x2 : Int32) (x5 : Int32) h) = (0 : Int32) then (gX12_trueMinute b0 f 37 (x1 : Int32) (x2 : Int32) (x3 : Int32) (x4 : Int32) ((x5 + (1 : Int32)) : Int32) (wX12_mayShow b0 (x1 : Int32) (x2 : Int32) (x5 : Int32) h)) else (gX12_trueMinute b0 f 37 (x1 : Int32) (x2 : Int32) (x3 : Int32) (x5 : Int32) ((x5 + (1 : Int32)) : Int32) (wX12_mayShow b0 (x1 : Int32) (x2 : Int32) (x5 : Int32) h)))) else none
theorem tX12_trueMinute {d : Nat} {b0 : Nat} {h0 : ea_H} (hd : 3 ≤ d) : ∀ (f lbl : Nat) (x1 : Int32) (x2 : Int32) (x3 : Int32) (x4 : Int32) (x5 : Int32) (h : ea_H) (r : Int32) (h' : ea_H), gX12_trueMinute b0 f lbl x1 x2 x3 x4 x5 h = some (r, h') → ShM b0 h → (lbl = 0 → ea_W mX12_trueMinute d h0 (some (vI r)) h' 0 [(0, vR (some (b0 + 0))), (1, vI x1), (2, vI x2), (3, vI x3)] [] h) ∧ (lbl = 37 → ea_W mX12_trueMinute d h0 (some (vI r)) h' 37 [(0, vR (some (b0 + 0))), (1, vI x1), (2, vI x2), (3, vI x3), (4, vI x4), (5, vI x5)] [] h) ∧ (lbl = 56 → ea_W mX12_trueMinute d h0 (some (vI r)) h' 56 [(0, vR (some (b0 + 0))), (1, vI x1), (2, vI x2), (3, vI x3), (4, vI x4), (5, vI x5)] [] h) := by
  intro f
  induction f with
  | zero => intro lbl x1 x2 x3 x4 x5 h r h' E; cases E
  | succ f ih =>
    intro lbl x1 x2 x3 x4 x5 h r h' E hs
    unfold gX12_trueMinute at E
    refine ⟨?_, ?_⟩
    · intro el
      subst el
      have E := (if_pos rfl).symm.trans E
      refine ea_aload_n (pc := 0) dX12_trueMinute_0 rfl 0 rfl ?_
      refine ea_iload_n (pc := 1) dX12_trueMinute_1 rfl 1 rfl ?_
      refine ea_callV (pc := 2) (d' := d - 1) (As := [vI x1]) (st := []) dX12_trueMinute_2 kX12_isTrain (sX12_isTrain (d := d - 1) (by omega) hs) (by omega) rfl (Nat.le_of_ble_eq_true rfl) ew_1736 ew_1738 ew_50 (ci := 12) rfl (by decide) (hs.1 0 (by decide)).1 (hs.1 0 (by decide)).2.1 ?_
      refine ea_if_eq (pc := 5) (tgt := 24) dX12_trueMinute_5 rfl (fun c7 => ?_) (fun c7 => ?_)
      · have E := (if_pos c7).symm.trans E
        refine ea_iconst (pc := 24) dX12_trueMinute_24 (v := (-1)) rfl ?_
        exact ea_iretO (pc := 25) dX12_trueMinute_25 rfl rfl E
      · have E := (if_neg c7).symm.trans E
        refine ea_iload_n (pc := 8) dX12_trueMinute_8 rfl 2 rfl ?_
        refine ea_callS (pc := 9) (d' := d - 1) (As := [vI x2]) (st := []) dX12_trueMinute_9 kX12_isMinute (sX12_isMinute (d := d - 1) (by omega)) (by omega) rfl (Nat.le_of_ble_eq_true rfl) ew_2147 ew_2148 ?_
        refine ea_if_eq (pc := 12) (tgt := 24) dX12_trueMinute_12 rfl (fun c6 => ?_) (fun c6 => ?_)
        · have E := (if_pos c6).symm.trans E
          refine ea_iconst (pc := 24) dX12_trueMinute_24 (v := (-1)) rfl ?_
          exact ea_iretO (pc := 25) dX12_trueMinute_25 rfl rfl E
        · have E := (if_neg c6).symm.trans E
          refine ea_iload_n (pc := 15) dX12_trueMinute_15 rfl 3 rfl ?_
          refine ea_iconst (pc := 16) dX12_trueMinute_16 (v := 0) rfl ?_
          refine ea_iconst (pc := 17) dX12_trueMinute_17 (v := 1) rfl ?_
          refine ea_callS (pc := 18) (d' := d - 1) (As := [vI x3, vI 0, vI 1]) (st := []) dX12_trueMinute_18 kX12_isIn (sX12_isIn (d := d - 1) (by omega)) (by omega) rfl (Nat.le_of_ble_eq_true rfl) ew_1712 ew_1713 ?_
          refine ea_if_ne (pc := 21) (tgt := 26) dX12_trueMinute_21 rfl (fun c5 => ?_) (fun c5 => ?_)
          · have E := (if_neg c5).symm.trans E
            refine ea_iconst (pc := 26) dX12_trueMinute_26 (v := (-1)) rfl ?_
            refine ea_istore (pc := 27) (lv' := [(0, vR (some (b0 + 0))), (1, vI x1), (2, vI x2), (3, vI x3), (4, vI (-1))]) dX12_trueMinute_27 (Nat.le_of_ble_eq_true rfl) [1, 2, 3, 4, 0] rfl ?_
            refine ea_aload_n (pc := 29) dX12_trueMinute_29 rfl 0 rfl ?_
            refine ea_getR (pc := 30) dX12_trueMinute_30 ec_12 (k := 108) (Nat.le_of_ble_eq_true rfl) rfl (Or.inl ew_1453) (hs.1 0 (by decide)).1 (hs.1 0 (by decide)).2.1 (hs.2 0 108 rfl) ?_
            refine ea_iload_n (pc := 33) dX12_trueMinute_33 rfl 1 rfl ?_
            obtain ⟨z4, E⟩ := gd_some E
            refine ea_iald (pc := 34) dX12_trueMinute_34 (hs.1 80 (by decide)).1 (hs.1 80 (by decide)).2.1 (ea_vpl (hs.1 80 (by decide)).2.2 z4) ?_
            refine ea_istore (pc := 35) (lv' := [(0, vR (some (b0 + 0))), (1, vI x1), (2, vI x2), (3, vI x3), (4, vI (-1)), (5, vI (ea_i h (b0 + 80) (Int32.toNatClampNeg x1)))]) dX12_trueMinute_35 (Nat.le_of_ble_eq_true rfl) [1, 2, 3, 4, 5, 0] rfl ?_
            exact ((ih 37 (x1 : Int32) (x2 : Int32) (x3 : Int32) ((-1) : Int32) ((ea_i h (b0 + 80) (Int32.toNatClampNeg x1)) : Int32) h _ _ E hs).2.1 rfl)
          · have E := (if_pos c5).symm.trans E
            refine ea_iconst (pc := 24) dX12_trueMinute_24 (v := (-1)) rfl ?_
            exact ea_iretO (pc := 25) dX12_trueMinute_25 rfl rfl E
    refine ⟨?_, ?_⟩
    · intro el
      subst el
      have E := (if_neg (by decide)).symm.trans E
      have E := (if_pos rfl).symm.trans E
      refine ea_iload (pc := 37) dX12_trueMinute_37 5 rfl ?_
      refine ea_sipush (pc := 39) dX12_trueMinute_39 (v := 10079) rfl ?_
      refine ea_icmp_gt (pc := 42) (tgt := 77) dX12_trueMinute_42 rfl (fun c10 => ?_) (fun c10 => ?_)
      · have E := (if_pos c10).symm.trans E
        refine ea_iload (pc := 77) dX12_trueMinute_77 4 rfl ?_
        exact ea_iretO (pc := 79) dX12_trueMinute_79 rfl rfl E
      · have E := (if_neg c10).symm.trans E
        refine ea_iload_n (pc := 45) dX12_trueMinute_45 rfl 3 rfl ?_
        refine ea_iconst (pc := 46) dX12_trueMinute_46 (v := 1) rfl ?_
        refine ea_icmp_eq (pc := 47) (tgt := 56) dX12_trueMinute_47 rfl (fun c9 => ?_) (fun c9 => ?_)
        · have E := (if_pos c9).symm.trans E
          exact ((ih 56 (x1 : Int32) (x2 : Int32) (x3 : Int32) (x4 : Int32) (x5 : Int32) h _ _ E hs).2.2 rfl)
        · have E := (if_neg c9).symm.trans E
          refine ea_iload (pc := 50) dX12_trueMinute_50 4 rfl ?_
          refine ea_iconst (pc := 52) dX12_trueMinute_52 (v := (-1)) rfl ?_
          refine ea_icmp_ne (pc := 53) (tgt := 77) dX12_trueMinute_53 rfl (fun c8 => ?_) (fun c8 => ?_)
          · have E := (if_neg c8).symm.trans E
            refine ea_iload (pc := 77) dX12_trueMinute_77 4 rfl ?_
            exact ea_iretO (pc := 79) dX12_trueMinute_79 rfl rfl E
          · have E := (if_pos c8).symm.trans E
            exact ((ih 56 (x1 : Int32) (x2 : Int32) (x3 : Int32) (x4 : Int32) (x5 : Int32) h _ _ E hs).2.2 rfl)
    intro el
    subst el
    have E := (if_neg (by decide)).symm.trans E
    have E := (if_neg (by decide)).symm.trans E
    have E := (if_pos rfl).symm.trans E
    refine ea_aload_n (pc := 56) dX12_trueMinute_56 rfl 0 rfl ?_
    refine ea_iload_n (pc := 57) dX12_trueMinute_57 rfl 1 rfl ?_
    refine ea_iload_n (pc := 58) dX12_trueMinute_58 rfl 2 rfl ?_
    refine ea_iload (pc := 59) dX12_trueMinute_59 5 rfl ?_
    obtain ⟨z11, E⟩ := gd_some E
    refine ea_callV (pc := 61) (d' := d - 1) (As := [vI x1, vI x2, vI x5]) (st := []) dX12_trueMinute_61 kX12_mayShow (sX12_mayShow (d := d - 1) (by omega) hs z11) (by omega) rfl (Nat.le_of_ble_eq_true rfl) ew_2163 ew_2165 ew_103 (ci := 12) rfl (by decide) (hs.1 0 (by decide)).1 (hs.1 0 (by decide)).2.1 ?_
    have hs12 : ShM b0 (wX12_mayShow b0 (x1 : Int32) (x2 : Int32) (x5 : Int32) h) := shX12_mayShow hs
    refine ea_if_eq (pc := 64) (tgt := 71) dX12_trueMinute_64 rfl (fun c13 => ?_) (fun c13 => ?_)
    · have E := (if_pos c13).symm.trans E
      refine ea_iinc (pc := 71) (v := 1) (lv' := [(0, vR (some (b0 + 0))), (1, vI x1), (2, vI x2), (3, vI x3), (4, vI x4), (5, vI (x5 + (1 : Int32)))]) dX12_trueMinute_71 5 rfl rfl (Nat.le_of_ble_eq_true rfl) [1, 2, 3, 4, 5, 0] rfl ?_
      refine ea_goto (pc := 74) (tgt := 37) dX12_trueMinute_74 rfl ?_
      exact ((ih 37 (x1 : Int32) (x2 : Int32) (x3 : Int32) (x4 : Int32) ((x5 + (1 : Int32)) : Int32) (wX12_mayShow b0 (x1 : Int32) (x2 : Int32) (x5 : Int32) h) _ _ E hs12).2.1 rfl)
    · have E := (if_neg c13).symm.trans E
      refine ea_iload (pc := 67) dX12_trueMinute_67 5 rfl ?_
      refine ea_istore (pc := 69) (lv' := [(0, vR (some (b0 + 0))), (1, vI x1), (2, vI x2), (3, vI x3), (4, vI x5), (5, vI x5)]) dX12_trueMinute_69 (Nat.le_of_ble_eq_true rfl) [1, 2, 3, 4, 0, 5] rfl ?_
      refine ea_iinc (pc := 71) (v := 1) (lv' := [(0, vR (some (b0 + 0))), (1, vI x1), (2, vI x2), (3, vI x3), (4, vI x5), (5, vI (x5 + (1 : Int32)))]) dX12_trueMinute_71 5 rfl rfl (Nat.le_of_ble_eq_true rfl) [1, 2, 3, 4, 5, 0] rfl ?_
      refine ea_goto (pc := 74) (tgt := 37) dX12_trueMinute_74 rfl ?_
      exact ((ih 37 (x1 : Int32) (x2 : Int32) (x3 : Int32) (x5 : Int32) ((x5 + (1 : Int32)) : Int32) (wX12_mayShow b0 (x1 : Int32) (x2 : Int32) (x5 : Int32) h) _ _ E hs12).2.1 rfl)
noncomputable def qX12_trueMinute (b0 : Nat) (x1 : Int32) (x2 : Int32) (x3 : Int32) (h : ea_H) : Option (Int32 × ea_H) := gX12_trueMinute b0 1000000000 0 x1 x2 x3 0 0 h
def okX12_trueMinute (b0 : Nat) (x1 : Int32) (x2 : Int32) (x3 : Int32) (h : ea_H) : Prop := ∃ x, qX12_trueMinute b0 x1 x2 x3 h = some x
noncomputable def vX12_trueMinute (b0 : Nat) (x1 : Int32) (x2 : Int32) (x3 : Int32) (h : ea_H) : Int32 := ((qX12_trueMinute b0 x1 x2 x3 h).getD (0, h)).1
noncomputable def wX12_trueMinute (b0 : Nat) (x1 : Int32) (x2 : Int32) (x3 : Int32) (h : ea_H) : ea_H := ((qX12_trueMinute b0 x1 x2 x3 h).getD (0, h)).2
theorem sX12_trueMinute {d : Nat} {b0 : Nat} {x1 : Int32} {x2 : Int32} {x3 : Int32} {h : ea_H} (hd : 3 ≤ d) (hs : ShM b0 h) (K : okX12_trueMinute b0 x1 x2 x3 h) : ea_Met mX12_trueMinute d [vR (some (b0 + 0)), vI x1, vI x2, vI x3] h (some (vI (vX12_trueMinute b0 x1 x2 x3 h))) (wX12_trueMinute b0 x1 x2 x3 h) := by
  obtain ⟨⟨x, y⟩, K⟩ := K
  unfold wX12_trueMinute vX12_trueMinute
  rw [K]
  unfold qX12_trueMinute at K
  exact ea_enter rfl (Nat.le_of_ble_eq_true rfl) ((tX12_trueMinute hd 1000000000 0 x1 x2 x3 0 0 h x y K hs).1 rfl)
theorem zX12_trueMinute {b0 : Nat} : ∀ (f lbl : Nat) (x1 : Int32) (x2 : Int32) (x3 : Int32) (x4 : Int32) (x5 : Int32) (h : ea_H) (r : Int32) (h' : ea_H), gX12_trueMinute b0 f lbl x1 x2 x3 x4 x5 h = some (r, h') → ShM b0 h → ShM b0 h' := by
  intro f
  induction f with
  | zero => intro lbl x1 x2 x3 x4 x5 h r h' E; cases E
  | succ f ih =>
    intro lbl x1 x2 x3 x4 x5 h r h' E hs
    unfold gX12_trueMinute at E
    by_cases el0 : lbl = 0
    · have E := (if_pos el0).symm.trans E
      by_cases c7 : (vX12_isTrain b0 (x1 : Int32) h) = (0 : Int32)
      · have E := (if_pos c7).symm.trans E
        exact ea_shO E hs
      have E := (if_neg c7).symm.trans E
      by_cases c6 : (vX12_isMinute (x2 : Int32) h) = (0 : Int32)
      · have E := (if_pos c6).symm.trans E
        exact ea_shO E hs
      have E := (if_neg c6).symm.trans E
      by_cases c5 : (vX12_isIn (x3 : Int32) (0 : Int32) (1 : Int32) h) = (0 : Int32)
      · have E := (if_pos c5).symm.trans E
        exact ea_shO E hs
      have E := (if_neg c5).symm.trans E
      obtain ⟨z4, E⟩ := gd_some E
      exact ih 37 (x1 : Int32) (x2 : Int32) (x3 : Int32) ((-1) : Int32) ((ea_i h (b0 + 80) (Int32.toNatClampNeg x1)) : Int32) h _ _ E hs
    have E := (if_neg el0).symm.trans E
    by_cases el1 : lbl = 37
    · have E := (if_pos el1).symm.trans E
      by_cases c10 : (10079 : Int32) < x5
      · have E := (if_pos c10).symm.trans E
        exact ea_shO E hs
      have E := (if_neg c10).symm.trans E
      by_cases c9 : x3 = (1 : Int32)
      · have E := (if_pos c9).symm.trans E
        exact ih 56 (x1 : Int32) (x2 : Int32) (x3 : Int32) (x4 : Int32) (x5 : Int32) h _ _ E hs
      have E := (if_neg c9).symm.trans E
      by_cases c8 : x4 = ((-1) : Int32)
      · have E := (if_pos c8).symm.trans E
        exact ih 56 (x1 : Int32) (x2 : Int32) (x3 : Int32) (x4 : Int32) (x5 : Int32) h _ _ E hs
      have E := (if_neg c8).symm.trans E
      exact ea_shO E hs
    have E := (if_neg el1).symm.trans E
    by_cases el2 : lbl = 56
    · have E := (if_pos el2).symm.trans E
      obtain ⟨z11, E⟩ := gd_some E
      by_cases c13 : (vX12_mayShow b0 (x1 : Int32) (x2 : Int32) (x5 : Int32) h) = (0 : Int32)
      · have E := (if_pos c13).symm.trans E
        exact ih 37 (x1 : Int32) (x2 : Int32) (x3 : Int32) (x4 : Int32) ((x5 + (1 : Int32)) : Int32) (wX12_mayShow b0 (x1 : Int32) (x2 : Int32) (x5 : Int32) h) _ _ E (shX12_mayShow hs)
      have E := (if_neg c13).symm.trans E
      exact ih 37 (x1 : Int32) (x2 : Int32) (x3 : Int32) (x5 : Int32) ((x5 + (1 : Int32)) : Int32) (wX12_mayShow b0 (x1 : Int32) (x2 : Int32) (x5 : Int32) h) _ _ E (shX12_mayShow hs)
    have E := (if_neg el2).symm.trans E
    cases E
theorem shX12_trueMinute {b0 : Nat} {x1 : Int32} {x2 : Int32} {x3 : Int32} {h : ea_H} (hs : ShM b0 h) : ShM b0 (wX12_trueMinute b0 x1 x2 x3 h) := by
  unfold wX12_trueMinute
  cases K : qX12_trueMinute b0 x1 x2 x3 h with
  | none => exact hs
  | some x => obtain ⟨x, y⟩ := x; unfold qX12_trueMinute at K; exact zX12_trueMinute _ _ _ _ _ _ _ _ _ _ K hs
noncomputable def gX12_tried (b0 : Nat) : Nat → Nat → Int32 → Int32 → Int64 → ea_H → Option (Int64 × ea_H)
  | 0, _, _, _, _, _ => none
  | f + 1, lbl, x1, x4, y2, h =>
    if lbl = 0 then (if (vX12_isIn (x1 : Int32) (0 : Int32) (((ea_i h (b0 + 0) 25) - (1 : Int32)) : Int32) h) = (0 : Int32) then (some (((-1) : Int64), h)) else (gX12_tried b0 f 23 (x1 : Int32) (0 : Int32) (0 : Int64) h)) else
    if lbl = 23 then (if (ea_i h (b0 + 0) 63) ≤ x4 then (some (y2, h)) else (gd ((okX12_chargeBy b0 (x4 : Int32) (x1 : Int32) h)) (gX12_tried b0 f 23 (x1 : Int32) ((x4 + (1 : Int32)) : Int32) ((y2 + (Int32.toInt64 (vX12_chargeBy b0 (x4 : Int32) (x1 : Int32) h))) : Int64) (wX12_chargeBy b0 (x4 : Int32) (x1 : Int32) h)))) else none
theorem tX12_tried {d : Nat} {b0 : Nat} {h0 : ea_H} (hd : 5 ≤ d) : ∀ (f lbl : Nat) (x1 : Int32) (x4 : Int32) (y2 : Int64) (h : ea_H) (r : Int64) (h' : ea_H), gX12_tried b0 f lbl x1 x4 y2 h = some (r, h') → ShM b0 h → (lbl = 0 → ea_W mX12_tried d h0 (some (vJ r)) h' 0 [(0, vR (some (b0 + 0))), (1, vI x1)] [] h) ∧ (lbl = 23 → ea_W mX12_tried d h0 (some (vJ r)) h' 23 [(0, vR (some (b0 + 0))), (1, vI x1), (2, vJ y2), (4, vI x4)] [] h) := by
  intro f
  induction f with
  | zero => intro lbl x1 x4 y2 h r h' E; cases E
  | succ f ih =>
    intro lbl x1 x4 y2 h r h' E hs
    unfold gX12_tried at E
    refine ⟨?_, ?_⟩
    · intro el
      subst el
      have E := (if_pos rfl).symm.trans E
      refine ea_iload_n (pc := 0) dX12_tried_0 rfl 1 rfl ?_
      refine ea_iconst (pc := 1) dX12_tried_1 (v := 0) rfl ?_
      refine ea_aload_n (pc := 2) dX12_tried_2 rfl 0 rfl ?_
      refine ea_getI (pc := 3) dX12_tried_3 ec_12 (k := 25) (Nat.le_of_ble_eq_true rfl) rfl (Or.inl ew_1370) (hs.1 0 (by decide)).1 (hs.1 0 (by decide)).2.1 ?_
      refine ea_iconst (pc := 6) dX12_tried_6 (v := 1) rfl ?_
      refine ea_isub (pc := 7) dX12_tried_7 ?_
      refine ea_callS (pc := 8) (d' := d - 1) (As := [vI x1, vI 0, vI ((ea_i h (b0 + 0) 25) - (1 : Int32))]) (st := []) dX12_tried_8 kX12_isIn (sX12_isIn (d := d - 1) (by omega)) (by omega) rfl (Nat.le_of_ble_eq_true rfl) ew_1712 ew_1713 ?_
      refine ea_if_ne (pc := 11) (tgt := 18) dX12_tried_11 rfl (fun c2 => ?_) (fun c2 => ?_)
      · have E := (if_neg c2).symm.trans E
        refine ea_lconst (pc := 18) dX12_tried_18 (v := 0) rfl ?_
        refine ea_lstore_n (pc := 19) (lv' := [(0, vR (some (b0 + 0))), (1, vI x1), (2, vJ 0)]) dX12_tried_19 rfl (Nat.le_of_ble_eq_true rfl) [1, 2, 0] rfl ?_
        refine ea_iconst (pc := 20) dX12_tried_20 (v := 0) rfl ?_
        refine ea_istore (pc := 21) (lv' := [(0, vR (some (b0 + 0))), (1, vI x1), (2, vJ 0), (4, vI 0)]) dX12_tried_21 (Nat.le_of_ble_eq_true rfl) [1, 2, 3, 0] rfl ?_
        exact ((ih 23 (x1 : Int32) (0 : Int32) (0 : Int64) h _ _ E hs).2 rfl)
      · have E := (if_pos c2).symm.trans E
        refine ea_ldc2 (pc := 14) dX12_tried_14 ew_2118 ?_
        exact ea_lretO (pc := 17) dX12_tried_17 rfl E
    intro el
    subst el
    have E := (if_neg (by decide)).symm.trans E
    have E := (if_pos rfl).symm.trans E
    refine ea_iload (pc := 23) dX12_tried_23 3 rfl ?_
    refine ea_aload_n (pc := 25) dX12_tried_25 rfl 0 rfl ?_
    refine ea_getI (pc := 26) dX12_tried_26 ec_12 (k := 63) (Nat.le_of_ble_eq_true rfl) rfl (Or.inl ew_1408) (hs.1 0 (by decide)).1 (hs.1 0 (by decide)).2.1 ?_
    refine ea_icmp_ge (pc := 29) (tgt := 49) dX12_tried_29 rfl (fun c5 => ?_) (fun c5 => ?_)
    · have E := (if_pos c5).symm.trans E
      refine ea_lload_n (pc := 49) dX12_tried_49 rfl 2 rfl ?_
      exact ea_lretO (pc := 50) dX12_tried_50 rfl E
    · have E := (if_neg c5).symm.trans E
      refine ea_lload_n (pc := 32) dX12_tried_32 rfl 2 rfl ?_
      refine ea_aload_n (pc := 33) dX12_tried_33 rfl 0 rfl ?_
      refine ea_iload (pc := 34) dX12_tried_34 3 rfl ?_
      refine ea_iload_n (pc := 36) dX12_tried_36 rfl 1 rfl ?_
      obtain ⟨z3, E⟩ := gd_some E
      refine ea_callV (pc := 37) (d' := d - 1) (As := [vI x4, vI x1]) (st := [vJ y2]) dX12_tried_37 kX12_chargeBy (sX12_chargeBy (d := d - 1) (by omega) hs z3) (by omega) rfl (Nat.le_of_ble_eq_true rfl) ew_1991 ew_1993 ew_84 (ci := 12) rfl (by decide) (hs.1 0 (by decide)).1 (hs.1 0 (by decide)).2.1 ?_
      have hs4 : ShM b0 (wX12_chargeBy b0 (x4 : Int32) (x1 : Int32) h) := shX12_chargeBy hs
      refine ea_i2l (pc := 40) dX12_tried_40 ?_
      refine ea_ladd (pc := 41) dX12_tried_41 ?_
      refine ea_lstore_n (pc := 42) (lv' := [(0, vR (some (b0 + 0))), (1, vI x1), (2, vJ (y2 + (Int32.toInt64 (vX12_chargeBy b0 (x4 : Int32) (x1 : Int32) h)))), (4, vI x4)]) dX12_tried_42 rfl (Nat.le_of_ble_eq_true rfl) [1, 2, 0, 3] rfl ?_
      refine ea_iinc (pc := 43) (v := 1) (lv' := [(0, vR (some (b0 + 0))), (1, vI x1), (2, vJ (y2 + (Int32.toInt64 (vX12_chargeBy b0 (x4 : Int32) (x1 : Int32) h)))), (4, vI (x4 + (1 : Int32)))]) dX12_tried_43 3 rfl rfl (Nat.le_of_ble_eq_true rfl) [1, 2, 3, 0] rfl ?_
      refine ea_goto (pc := 46) (tgt := 23) dX12_tried_46 rfl ?_
      exact ((ih 23 (x1 : Int32) ((x4 + (1 : Int32)) : Int32) ((y2 + (Int32.toInt64 (vX12_chargeBy b0 (x4 : Int32) (x1 : Int32) h))) : Int64) (wX12_chargeBy b0 (x4 : Int32) (x1 : Int32) h) _ _ E hs4).2 rfl)
noncomputable def qX12_tried (b0 : Nat) (x1 : Int32) (h : ea_H) : Option (Int64 × ea_H) := gX12_tried b0 1000000000 0 x1 0 0 h
def okX12_tried (b0 : Nat) (x1 : Int32) (h : ea_H) : Prop := ∃ x, qX12_tried b0 x1 h = some x
noncomputable def vX12_tried (b0 : Nat) (x1 : Int32) (h : ea_H) : Int64 := ((qX12_tried b0 x1 h).getD (0, h)).1
noncomputable def wX12_tried (b0 : Nat) (x1 : Int32) (h : ea_H) : ea_H := ((qX12_tried b0 x1 h).getD (0, h)).2
theorem sX12_tried {d : Nat} {b0 : Nat} {x1 : Int32} {h : ea_H} (hd : 5 ≤ d) (hs : ShM b0 h) (K : okX12_tried b0 x1 h) : ea_Met mX12_tried d [vR (some (b0 + 0)), vI x1] h (some (vJ (vX12_tried b0 x1 h))) (wX12_tried b0 x1 h) := by
  obtain ⟨⟨x, y⟩, K⟩ := K
  unfold wX12_tried vX12_tried
  rw [K]
  unfold qX12_tried at K
  exact ea_enter rfl (Nat.le_of_ble_eq_true rfl) ((tX12_tried hd 1000000000 0 x1 0 0 h x y K hs).1 rfl)
