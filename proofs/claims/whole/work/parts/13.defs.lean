def sX3_lay (x0 : Nat) (x1 : Int32) (x2 : Int32) (w : ab_W) : Option (ab_W) :=
  if ab_is w 3 x0 = true then
    (ab_div x1 10).bind fun v1 =>
    (ab_putI w 3 x0 0 v1).bind fun w2 =>
    (ab_rem x1 10).bind fun v3 =>
    (ab_putI w2 3 x0 1 v3).bind fun w4 =>
    (ab_putI w4 3 x0 2 x2).bind fun w5 =>
    (ab_putI w5 3 x0 3 0).bind fun w6 =>
    (ab_putZ w6 3 x0 4 0).bind fun w7 =>
    (ab_putI w7 3 x0 5 0).bind fun w8 =>
    some w8
  else none
def sX0_lay (x0 : Nat) (x1 : Int32) (x2 : Int32) (w : ab_W) : Option (Int32 × ab_W) :=
  if ab_is w 0 x0 = true then
    (ab_getI w 0 x0 4).bind fun v1 =>
    if v1 < 8 then
      (ab_getR w 0 x0 0).bind fun v2 =>
      (ab_rald w 1 v2 v1).bind fun v3 =>
      (sX3_lay v3 x1 x2 w).bind fun w4 =>
      (ab_getI w4 0 x0 4).bind fun v5 =>
      (ab_putI w4 0 x0 4 (v5 + 1)).bind fun w6 =>
      some (v1, w6)
    else
    some (v1, w)
  else none
def sX9_within (x0 : Int32) (x1 : Int32) (x2 : Int32) (w : ab_W) : Option (Int32 × ab_W) :=
    if x0 < x1 then
      (ab_bool 0).bind fun y => some (y, w)
    else
    if x2 < x0 then
      (ab_bool 0).bind fun y => some (y, w)
    else
    (ab_bool 1).bind fun y => some (y, w)
def sX9_fail_19 (x1 : Int32) (w : ab_W) : Option (Int32 × ab_W) :=
    some (((-1000000000) - x1), w)
def sX9_fail (x0 : Nat) (x1 : Int32) (w : ab_W) : Option (Int32 × ab_W) :=
  if ab_is w 9 x0 = true then
    ab_b2 (sX9_within x1 1 5 w) fun v1 w2 =>
    if v1 = 0 then
      sX9_fail_19 x1 w2
    else
    (ab_getR w2 9 x0 0).bind fun v3 =>
    (ab_ald w2 v3 x1).bind fun v4 =>
    (ab_ast w2 v3 x1 (v4 + 1)).bind fun w5 =>
    sX9_fail_19 x1 w5
  else none
def sX9_paper_21 (x0 : Nat) (w : ab_W) : Option (Int32 × ab_W) :=
    ab_b2 (sX9_fail x0 1 w) fun v1 w2 =>
    some (v1, w2)
def sX9_paper (x0 : Nat) (x1 : Int32) (x2 : Int32) (w : ab_W) : Option (Int32 × ab_W) :=
  if ab_is w 9 x0 = true then
    ab_b2 (sX9_within x1 0 69 w) fun v1 w2 =>
    if v1 = 0 then
      sX9_paper_21 x0 w2
    else
    ab_b2 (sX9_within x2 0 9999 w2) fun v3 w4 =>
    if v3 = 0 then
      sX9_paper_21 x0 w4
    else
    (ab_getR w4 9 x0 3).bind fun v5 =>
    (ab_getI w4 0 v5 4).bind fun v6 =>
    if v6 < 8 then
      (ab_getR w4 9 x0 3).bind fun v7 =>
      ab_b2 (sX0_lay v7 x1 x2 w4) fun v8 w9 =>
      some (v8, w9)
    else
    ab_b2 (sX9_fail x0 4 w4) fun v10 w11 =>
    some (v10, w11)
  else none
def sX0_has (x0 : Nat) (x1 : Int32) (w : ab_W) : Option (Int32 × ab_W) :=
  if ab_is w 0 x0 = true then
    if x1 < 0 then
      (ab_bool 0).bind fun y => some (y, w)
    else
    (ab_getI w 0 x0 4).bind fun v1 =>
    if x1 < v1 then
      (ab_bool 1).bind fun y => some (y, w)
    else
    (ab_bool 0).bind fun y => some (y, w)
  else none
def sX3_stiff (x0 : Nat) (w : ab_W) : Option (Int32 × ab_W) :=
  if ab_is w 3 x0 = true then
    (ab_getI w 3 x0 0).bind fun v1 =>
    if v1 = 1 then
      (ab_getI w 3 x0 1).bind fun v2 =>
      (ab_rem v2 4).bind fun v3 =>
      some ((8 - v3), w)
    else
    if v1 = 2 then
      some (4, w)
    else
    if v1 = 3 then
      some (6, w)
    else
    if v1 = 4 then
      (ab_getI w 3 x0 1).bind fun v4 =>
      (ab_rem v4 4).bind fun v5 =>
      some (((8 - v5) - 1), w)
    else
    if v1 = 5 then
      (ab_getI w 3 x0 1).bind fun v6 =>
      (ab_rem v6 2).bind fun v7 =>
      some ((4 + v7), w)
    else
    if v1 = 6 then
      some (3, w)
    else
    some (8, w)
  else none
def sX3_widestLiving (x0 : Nat) (w : ab_W) : Option (Int32 × ab_W) :=
  if ab_is w 3 x0 = true then
    (ab_getI w 3 x0 0).bind fun v1 =>
    if v1 = 1 then
      (ab_getI w 3 x0 1).bind fun v2 =>
      (ab_rem v2 3).bind fun v3 =>
      some ((4 + v3), w)
    else
    if v1 = 2 then
      some (5, w)
    else
    if v1 = 3 then
      some (3, w)
    else
    if v1 = 4 then
      (ab_getI w 3 x0 1).bind fun v4 =>
      (ab_rem v4 3).bind fun v5 =>
      some ((4 + v5), w)
    else
    if v1 = 5 then
      some (5, w)
    else
    if v1 = 6 then
      some (6, w)
    else
    some (4, w)
  else none
def sX6_live (x0 : Nat) (x1 : Nat) (x2 : Int32) (w : ab_W) : Option (Int32 × ab_W) :=
  if ab_is w 6 x0 = true then
    if x2 = 0 then
      (ab_bool 0).bind fun y => some (y, w)
    else
    (ab_getR w 6 x0 0).bind fun v1 =>
    (ab_ald w v1 x2).bind fun v2 =>
    ab_b2 (sX3_widestLiving x1 w) fun v3 w4 =>
    if v3 < v2 then
      (ab_bool 0).bind fun y => some (y, w4)
    else
    (ab_bool 1).bind fun y => some (y, w4)
  else none
def sX9_ofPaper_21 (x0 : Nat) (w : ab_W) : Option (Int32 × ab_W) :=
    ab_b2 (sX9_fail x0 1 w) fun v1 w2 =>
    some (v1, w2)
def sX9_ofPaper (x0 : Nat) (x1 : Int32) (x2 : Int32) (w : ab_W) : Option (Int32 × ab_W) :=
  if ab_is w 9 x0 = true then
    (ab_getR w 9 x0 3).bind fun v1 =>
    ab_b2 (sX0_has v1 x1 w) fun v2 w3 =>
    if v2 = 0 then
      sX9_ofPaper_21 x0 w3
    else
    ab_b2 (sX9_within x2 0 9 w3) fun v4 w5 =>
    if v4 = 0 then
      sX9_ofPaper_21 x0 w5
    else
    (ab_getR w5 9 x0 3).bind fun v6 =>
    (ab_getR w5 0 v6 0).bind fun v7 =>
    (ab_rald w5 1 v7 x1).bind fun v8 =>
    if x2 = 0 then
      (ab_getI w5 3 v8 0).bind fun v9 =>
      some (v9, w5)
    else
    if x2 = 1 then
      (ab_getI w5 3 v8 1).bind fun v10 =>
      some (v10, w5)
    else
    if x2 = 2 then
      (ab_getI w5 3 v8 2).bind fun v11 =>
      some (v11, w5)
    else
    if x2 = 3 then
      (ab_getI w5 3 v8 3).bind fun v12 =>
      some (v12, w5)
    else
    if x2 = 4 then
      (ab_getI w5 3 v8 4).bind fun v13 =>
      if v13 = 0 then
        some (0, w5)
      else
      some (1, w5)
    else
    if x2 = 5 then
      (ab_getI w5 3 v8 5).bind fun v14 =>
      some (v14, w5)
    else
    if x2 = 6 then
      (ab_getR w5 9 x0 2).bind fun v15 =>
      (ab_getR w5 6 v15 0).bind fun v16 =>
      (ab_getI w5 3 v8 3).bind fun v17 =>
      (ab_ald w5 v16 v17).bind fun v18 =>
      some (v18, w5)
    else
    if x2 = 7 then
      (ab_getR w5 9 x0 2).bind fun v19 =>
      (ab_getR w5 6 v19 1).bind fun v20 =>
      (ab_getI w5 3 v8 3).bind fun v21 =>
      (ab_ald w5 v20 v21).bind fun v22 =>
      some (v22, w5)
    else
    if x2 = 8 then
      ab_b2 (sX3_stiff v8 w5) fun v23 w24 =>
      some (v23, w24)
    else
    (ab_getR w5 9 x0 2).bind fun v25 =>
    (ab_getI w5 3 v8 3).bind fun v26 =>
    ab_b2 (sX6_live v25 v8 v26 w5) fun v27 w28 =>
    if v27 = 0 then
      some (0, w28)
    else
    some (1, w28)
  else none
def sX9_mostOf (x0 : Int32) (w : ab_W) : Option (Int32 × ab_W) :=
    if x0 = 0 then
      some (9999, w)
    else
    if x0 = 1 then
      some (1, w)
    else
    some (999, w)
def sX9_change_32 (x0 : Nat) (w : ab_W) : Option (Int32 × ab_W) :=
    ab_b2 (sX9_fail x0 1 w) fun v1 w2 =>
    some (v1, w2)
def sX9_change_101 (x5 : Int32) (p0 : Nat) (p1 : Int32) (w : ab_W) : Option (Int32 × ab_W) :=
    (ab_putZ w 3 p0 4 p1).bind fun w1 =>
    some (x5, w1)
def sX9_change_87 (x3 : Int32) (x4 : Nat) (p0 : Int32) (w : ab_W) : Option (Int32 × ab_W) :=
    if x3 = 1 then
      sX9_change_101 p0 x4 1 w
    else
    sX9_change_101 p0 x4 0 w
def sX9_change (x0 : Nat) (x1 : Int32) (x2 : Int32) (x3 : Int32) (w : ab_W) : Option (Int32 × ab_W) :=
  if ab_is w 9 x0 = true then
    (ab_getR w 9 x0 3).bind fun v1 =>
    ab_b2 (sX0_has v1 x1 w) fun v2 w3 =>
    if v2 = 0 then
      sX9_change_32 x0 w3
    else
    ab_b2 (sX9_within x2 0 2 w3) fun v4 w5 =>
    if v4 = 0 then
      sX9_change_32 x0 w5
    else
    ab_b2 (sX9_mostOf x2 w5) fun v6 w7 =>
    ab_b2 (sX9_within x3 0 v6 w7) fun v8 w9 =>
    if v8 = 0 then
      sX9_change_32 x0 w9
    else
    (ab_getR w9 9 x0 3).bind fun v10 =>
    (ab_getR w9 0 v10 0).bind fun v11 =>
    (ab_rald w9 1 v11 x1).bind fun v12 =>
    if x2 = 0 then
      (ab_getI w9 3 v12 2).bind fun v13 =>
      (ab_putI w9 3 v12 2 x3).bind fun w14 =>
      some (v13, w14)
    else
    if x2 = 1 then
      (ab_getI w9 3 v12 4).bind fun v15 =>
      if v15 = 0 then
        sX9_change_87 x3 v12 0 w9
      else
      sX9_change_87 x3 v12 1 w9
    else
    (ab_getI w9 3 v12 5).bind fun v16 =>
    (ab_putI w9 3 v12 5 x3).bind fun w17 =>
    some (v16, w17)
  else none
def sX9_fold_21 (x0 : Nat) (w : ab_W) : Option (Int32 × ab_W) :=
    ab_b2 (sX9_fail x0 1 w) fun v1 w2 =>
    some (v1, w2)
def sX9_fold_71 (x0 : Nat) (w : ab_W) : Option (Int32 × ab_W) :=
    ab_b2 (sX9_fail x0 3 w) fun v1 w2 =>
    some (v1, w2)
def sX9_fold (x0 : Nat) (x1 : Int32) (x2 : Int32) (w : ab_W) : Option (Int32 × ab_W) :=
  if ab_is w 9 x0 = true then
    (ab_getR w 9 x0 3).bind fun v1 =>
    ab_b2 (sX0_has v1 x1 w) fun v2 w3 =>
    if v2 = 0 then
      sX9_fold_21 x0 w3
    else
    ab_b2 (sX9_within x2 0 6 w3) fun v4 w5 =>
    if v4 = 0 then
      sX9_fold_21 x0 w5
    else
    (ab_getR w5 9 x0 3).bind fun v6 =>
    (ab_getR w5 0 v6 0).bind fun v7 =>
    (ab_rald w5 1 v7 x1).bind fun v8 =>
    (ab_getI w5 3 v8 3).bind fun v9 =>
    (ab_getI w5 3 v8 4).bind fun v10 =>
    if v10 = 0 then
      (ab_getR w5 9 x0 2).bind fun v11 =>
      (ab_getR w5 6 v11 1).bind fun v12 =>
      (ab_ald w5 v12 (v9 ^^^ (1 <<< (x2 &&& 31)))).bind fun v13 =>
      ab_b2 (sX3_stiff v8 w5) fun v14 w15 =>
      if v14 < v13 then
        sX9_fold_71 x0 w15
      else
      (ab_putI w15 3 v8 3 (v9 ^^^ (1 <<< (x2 &&& 31)))).bind fun w16 =>
      (ab_getR w16 9 x0 2).bind fun v17 =>
      (ab_getR w16 6 v17 0).bind fun v18 =>
      (ab_ald w16 v18 (v9 ^^^ (1 <<< (x2 &&& 31)))).bind fun v19 =>
      some (v19, w16)
    else
    sX9_fold_71 x0 w5
  else none
def sX9_release_49 (x0 : Nat) (w : ab_W) : Option (Int32 × ab_W) :=
    ab_b2 (sX9_fail x0 3 w) fun v1 w2 =>
    some (v1, w2)
def sX9_release (x0 : Nat) (x1 : Int32) (w : ab_W) : Option (Int32 × ab_W) :=
  if ab_is w 9 x0 = true then
    (ab_getR w 9 x0 3).bind fun v1 =>
    ab_b2 (sX0_has v1 x1 w) fun v2 w3 =>
    if v2 = 0 then
      ab_b2 (sX9_fail x0 1 w3) fun v4 w5 =>
      some (v4, w5)
    else
    (ab_getR w3 9 x0 3).bind fun v6 =>
    (ab_getR w3 0 v6 0).bind fun v7 =>
    (ab_rald w3 1 v7 x1).bind fun v8 =>
    (ab_getI w3 3 v8 4).bind fun v9 =>
    if v9 = 0 then
      (ab_getR w3 9 x0 2).bind fun v10 =>
      (ab_getI w3 3 v8 3).bind fun v11 =>
      ab_b2 (sX6_live v10 v8 v11 w3) fun v12 w13 =>
      if v12 = 0 then
        sX9_release_49 x0 w13
      else
      (ab_putZ w13 3 v8 4 1).bind fun w14 =>
      (ab_getI w14 3 v8 2).bind fun v15 =>
      some (v15, w14)
    else
    sX9_release_49 x0 w3
  else none
def sX9_wind (x0 : Nat) (x1 : Int32) (w : ab_W) : Option (Int32 × ab_W) :=
  if ab_is w 9 x0 = true then
    ab_b2 (sX9_within x1 0 9 w) fun v1 w2 =>
    if v1 = 0 then
      ab_b2 (sX9_fail x0 1 w2) fun v3 w4 =>
      some (v3, w4)
    else
    (ab_getR w2 9 x0 3).bind fun v5 =>
    (ab_getI w2 0 v5 6).bind fun v6 =>
    (ab_getR w2 9 x0 3).bind fun v7 =>
    (ab_putI w2 0 v7 6 x1).bind fun w8 =>
    some (v6, w8)
  else none
def sX9_become_21 (x0 : Nat) (w : ab_W) : Option (Int32 × ab_W) :=
    ab_b2 (sX9_fail x0 1 w) fun v1 w2 =>
    some (v1, w2)
def sX9_become (x0 : Nat) (x1 : Int32) (x2 : Int32) (w : ab_W) : Option (Int32 × ab_W) :=
  if ab_is w 9 x0 = true then
    (ab_getR w 9 x0 3).bind fun v1 =>
    ab_b2 (sX0_has v1 x1 w) fun v2 w3 =>
    if v2 = 0 then
      sX9_become_21 x0 w3
    else
    ab_b2 (sX9_within x2 0 69 w3) fun v4 w5 =>
    if v4 = 0 then
      sX9_become_21 x0 w5
    else
    (ab_getR w5 9 x0 3).bind fun v6 =>
    (ab_getR w5 0 v6 0).bind fun v7 =>
    (ab_rald w5 1 v7 x1).bind fun v8 =>
    (ab_getI w5 3 v8 0).bind fun v9 =>
    (ab_div x2 10).bind fun v10 =>
    (ab_putI w5 3 v8 0 v10).bind fun w11 =>
    (ab_rem x2 10).bind fun v12 =>
    (ab_putI w11 3 v8 1 v12).bind fun w13 =>
    some (v9, w13)
  else none
def sX9_isOfKind_4 : Nat → Int32 → Int32 → Int32 → ab_W → Option (Int32 × ab_W)
  | 0, _, _, _, _ => none
  | n + 1, x1, x2, x3, w =>
    if x3 < 7 then
      if x2 < 0 then
        (ab_bool 0).bind fun y => some (y, w)
      else
      if x2 < 7 then
        if x2 = x1 then
          (ab_bool 1).bind fun y => some (y, w)
        else
        (ab_rd 7 ab_above x2).bind fun v1 =>
        sX9_isOfKind_4 n x1 v1 (x3 + 1) w
      else
      (ab_bool 0).bind fun y => some (y, w)
    else
    (ab_bool 0).bind fun y => some (y, w)
def sX9_isOfKind (x0 : Int32) (x1 : Int32) (w : ab_W) : Option (Int32 × ab_W) :=
    sX9_isOfKind_4 1000 x1 x0 0 w
def sX9_as_21 (x0 : Nat) (w : ab_W) : Option (Int32 × ab_W) :=
    ab_b2 (sX9_fail x0 1 w) fun v1 w2 =>
    some (v1, w2)
def sX9_as (x0 : Nat) (x1 : Int32) (x2 : Int32) (w : ab_W) : Option (Int32 × ab_W) :=
  if ab_is w 9 x0 = true then
    (ab_getR w 9 x0 3).bind fun v1 =>
    ab_b2 (sX0_has v1 x1 w) fun v2 w3 =>
    if v2 = 0 then
      sX9_as_21 x0 w3
    else
    ab_b2 (sX9_within x2 0 6 w3) fun v4 w5 =>
    if v4 = 0 then
      sX9_as_21 x0 w5
    else
    (ab_getR w5 9 x0 3).bind fun v6 =>
    (ab_getR w5 0 v6 0).bind fun v7 =>
    (ab_rald w5 1 v7 x1).bind fun v8 =>
    (ab_getI w5 3 v8 0).bind fun v9 =>
    ab_b2 (sX9_isOfKind v9 x2 w5) fun v10 w11 =>
    if v10 = 0 then
      ab_b2 (sX9_fail x0 5 w11) fun v12 w13 =>
      some (v12, w13)
    else
    (ab_getI w11 3 v8 1).bind fun v14 =>
    some (v14, w11)
  else none
def sX9_feed_39 : Nat → Nat → Int64 → Int32 → Int32 → ab_W → Option (Int32 × ab_W)
  | 0, _, _, _, _, _ => none
  | n + 1, x0, x1, x3, x4, w =>
    if x4 < x3 then
      (ab_getR w 9 x0 3).bind fun v1 =>
      (ab_getR w 0 v1 1).bind fun v2 =>
      (ab_getR w 9 x0 3).bind fun v3 =>
      (ab_getI w 0 v3 7).bind fun v4 =>
      (ab_ast w v2 (v4 + x4) (((((x1 : Int64).toUInt64 >>> (((8 * x4) : Int32).toInt64.toUInt64 &&& Int64.toUInt64 63)).toInt64 &&& (255 : Int64)) : Int64).toInt32)).bind fun w5 =>
      sX9_feed_39 n x0 x1 x3 (x4 + 1) w5
    else
    (ab_getR w 9 x0 3).bind fun v6 =>
    (ab_getI w 0 v6 7).bind fun v7 =>
    (ab_putI w 0 v6 7 (v7 + x3)).bind fun w8 =>
    (ab_getR w8 9 x0 3).bind fun v9 =>
    (ab_getI w8 0 v9 7).bind fun v10 =>
    some (v10, w8)
def sX9_feed (x0 : Nat) (x1 : Int64) (x3 : Int32) (w : ab_W) : Option (Int32 × ab_W) :=
  if ab_is w 9 x0 = true then
    ab_b2 (sX9_within x3 1 8 w) fun v1 w2 =>
    if v1 = 0 then
      ab_b2 (sX9_fail x0 1 w2) fun v3 w4 =>
      some (v3, w4)
    else
    (ab_getR w2 9 x0 3).bind fun v5 =>
    (ab_getI w2 0 v5 7).bind fun v6 =>
    if 50 < (v6 + x3) then
      ab_b2 (sX9_fail x0 4 w2) fun v7 w8 =>
      some (v7, w8)
    else
    sX9_feed_39 1000 x0 x1 x3 0 w2
  else none
def sX2_copyFrom (x0 : Nat) (x1 : Nat) (w : ab_W) : Option (ab_W) :=
  if ab_is w 2 x0 = true then
    (ab_getR w 2 x1 0).bind fun v1 =>
    (ab_getR w 2 x0 0).bind fun v2 =>
    (ab_cpy w v1 0 v2 0 50).bind fun w3 =>
    (ab_getI w3 2 x1 2).bind fun v4 =>
    (ab_putI w3 2 x0 2 v4).bind fun w5 =>
    some w5
  else none
def sX2_clear (x0 : Nat) (w : ab_W) : Option (ab_W) :=
  if ab_is w 2 x0 = true then
    (ab_putI w 2 x0 2 0).bind fun w1 =>
    some w1
  else none
def sX2_add (x0 : Nat) (x1 : Int32) (w : ab_W) : Option (ab_W) :=
  if ab_is w 2 x0 = true then
    (ab_getI w 2 x0 2).bind fun v1 =>
    if v1 < 50 then
      (ab_getR w 2 x0 0).bind fun v2 =>
      (ab_getI w 2 x0 2).bind fun v3 =>
      (ab_ast w v2 v3 x1).bind fun w4 =>
      (ab_getI w4 2 x0 2).bind fun v5 =>
      (ab_putI w4 2 x0 2 (v5 + 1)).bind fun w6 =>
      some w6
    else
    some w
  else none
def sX4_levelOf (x0 : Int32) (w : ab_W) : Option (Int32 × ab_W) :=
    if x0 = 37 then
      some (4, w)
    else
    if x0 = 38 then
      some (1, w)
    else
    if x0 = 42 then
      some (4, w)
    else
    if x0 = 43 then
      some (3, w)
    else
    if x0 = 45 then
      some (3, w)
    else
    if x0 = 47 then
      some (4, w)
    else
    if x0 = 60 then
      some (2, w)
    else
    if x0 = 61 then
      some (2, w)
    else
    if x0 = 62 then
      some (2, w)
    else
    if x0 = 124 then
      some (0, w)
    else
    some ((-1), w)
def sX4_next (x0 : Nat) (w : ab_W) : Option (Int32 × ab_W) :=
  if ab_is w 4 x0 = true then
    (ab_getI w 4 x0 1).bind fun v1 =>
    if v1 < 0 then
      some ((-1), w)
    else
    (ab_getI w 4 x0 1).bind fun v2 =>
    (ab_getI w 4 x0 3).bind fun v3 =>
    if v2 < v3 then
      (ab_getR w 4 x0 2).bind fun v4 =>
      (ab_getI w 4 x0 1).bind fun v5 =>
      (ab_ald w v4 v5).bind fun v6 =>
      some (v6, w)
    else
    some ((-1), w)
  else none
def sX4_isDigit (x0 : Int32) (w : ab_W) : Option (Int32 × ab_W) :=
    if x0 < 48 then
      (ab_bool 0).bind fun y => some (y, w)
    else
    if 57 < x0 then
      (ab_bool 0).bind fun y => some (y, w)
    else
    (ab_bool 1).bind fun y => some (y, w)
def sX4_nameOf (x0 : Nat) (x1 : Int32) (w : ab_W) : Option (Int32 × ab_W) :=
  if ab_is w 4 x0 = true then
    if x1 = 98 then
      (ab_getI w 4 x0 4).bind fun v1 =>
      if v1 = 0 then
        some (2, w)
      else
      some ((-1), w)
    else
    if x1 = 100 then
      (ab_getI w 4 x0 4).bind fun v2 =>
      if v2 = 1 then
        some (2, w)
      else
      some ((-1), w)
    else
    if x1 = 102 then
      (ab_getI w 4 x0 4).bind fun v3 =>
      if v3 = 1 then
        some (1, w)
      else
      some ((-1), w)
    else
    if x1 = 104 then
      (ab_getI w 4 x0 4).bind fun v4 =>
      if v4 = 0 then
        some (1, w)
      else
      some ((-1), w)
    else
    if x1 = 111 then
      (ab_getI w 4 x0 4).bind fun v5 =>
      if v5 = 1 then
        some (0, w)
      else
      some ((-1), w)
    else
    if x1 = 119 then
      (ab_getI w 4 x0 4).bind fun v6 =>
      if v6 = 0 then
        some (0, w)
      else
      some ((-1), w)
    else
    some ((-1), w)
  else none
def sX4_readNumber_48 (x0 : Nat) (x1 : Int32) (w : ab_W) : Option (ab_W) :=
    (ab_getR w 4 x0 0).bind fun v1 =>
    (sX2_add v1 x1 w).bind fun w2 =>
    some w2
def sX4_readNumber_4 : Nat → Nat → Int32 → Int32 → ab_W → Option (ab_W)
  | 0, _, _, _, _ => none
  | n + 1, x0, x1, x2, w =>
    if x2 < 4 then
      ab_b2 (sX4_next x0 w) fun v1 w2 =>
      ab_b2 (sX4_isDigit v1 w2) fun v3 w4 =>
      if v3 = 0 then
        sX4_readNumber_48 x0 x1 w4
      else
      ab_b2 (sX4_next x0 w4) fun v5 w6 =>
      (ab_getI w6 4 x0 1).bind fun v7 =>
      (ab_putI w6 4 x0 1 (v7 + 1)).bind fun w8 =>
      sX4_readNumber_4 n x0 (((10 * x1) + v5) - 48) (x2 + 1) w8
    else
    sX4_readNumber_48 x0 x1 w
def sX4_readNumber (x0 : Nat) (w : ab_W) : Option (ab_W) :=
  if ab_is w 4 x0 = true then
    sX4_readNumber_4 1000 x0 0 0 w
  else none
def sX4_readLevel_39 (f_X4_readLevel : Nat → Int32 → Int32 → ab_W → Option (Int32 × ab_W)) (f_X4_readSingle : Nat → Int32 → ab_W → Option (Int32 × ab_W)) : Nat → Nat → Int32 → Int32 → Int32 → Int32 → ab_W → Option (Int32 × ab_W)
  | 0, _, _, _, _, _, _ => none
  | n + 1, x0, x1, x2, x3, x4, w =>
    if x4 < x3 then
      ab_b2 (sX4_next x0 w) fun v1 w2 =>
      ab_b2 (sX4_levelOf v1 w2) fun v3 w4 =>
      if v3 = x1 then
        ab_b2 (sX4_next x0 w4) fun v5 w6 =>
        (ab_getI w6 4 x0 1).bind fun v7 =>
        (ab_putI w6 4 x0 1 (v7 + 1)).bind fun w8 =>
        ab_b2 (f_X4_readLevel x0 (x1 + 1) x2 w8) fun v9 w10 =>
        if v9 = 0 then
          (ab_bool 0).bind fun y => some (y, w10)
        else
        (ab_getR w10 4 x0 0).bind fun v11 =>
        (sX2_add v11 (20000 + v5) w10).bind fun w12 =>
        sX4_readLevel_39 f_X4_readLevel f_X4_readSingle n x0 x1 x2 x3 (x4 + 1) w12
      else
      (ab_bool 1).bind fun y => some (y, w4)
    else
    (ab_bool 1).bind fun y => some (y, w)
def sX4_readLevel_35 (f_X4_readLevel : Nat → Int32 → Int32 → ab_W → Option (Int32 × ab_W)) (f_X4_readSingle : Nat → Int32 → ab_W → Option (Int32 × ab_W)) (x0 : Nat) (x1 : Int32) (x2 : Int32) (p0 : Int32) (w : ab_W) : Option (Int32 × ab_W) :=
    sX4_readLevel_39 f_X4_readLevel f_X4_readSingle 1000 x0 x1 x2 p0 0 w
def bX4_readLevel (f_X4_readLevel : Nat → Int32 → Int32 → ab_W → Option (Int32 × ab_W)) (f_X4_readSingle : Nat → Int32 → ab_W → Option (Int32 × ab_W)) (x0 : Nat) (x1 : Int32) (x2 : Int32) (w : ab_W) : Option (Int32 × ab_W) :=
  if ab_is w 4 x0 = true then
    if x1 < 5 then
      ab_b2 (f_X4_readLevel x0 (x1 + 1) x2 w) fun v1 w2 =>
      if v1 = 0 then
        (ab_bool 0).bind fun y => some (y, w2)
      else
      if x1 = 2 then
        sX4_readLevel_35 f_X4_readLevel f_X4_readSingle x0 x1 x2 1 w2
      else
      sX4_readLevel_35 f_X4_readLevel f_X4_readSingle x0 x1 x2 50 w2
    else
    ab_b2 (f_X4_readSingle x0 x2 w) fun v3 w4 =>
    (ab_bool v3).bind fun y => some (y, w4)
  else none
def sX4_readSingle_30 (f_X4_readInside : Nat → Int32 → Int32 → ab_W → Option (Int32 × ab_W)) (x0 : Nat) (x1 : Int32) (x2 : Int32) (w : ab_W) : Option (Int32 × ab_W) :=
    if x1 < 5 then
      ab_b2 (f_X4_readInside x0 x2 (x1 + 1) w) fun v1 w2 =>
      if v1 = 0 then
        (ab_bool 0).bind fun y => some (y, w2)
      else
      (ab_bool 1).bind fun y => some (y, w2)
    else
    (ab_bool 0).bind fun y => some (y, w)
def bX4_readSingle (f_X4_readInside : Nat → Int32 → Int32 → ab_W → Option (Int32 × ab_W)) (x0 : Nat) (x1 : Int32) (w : ab_W) : Option (Int32 × ab_W) :=
  if ab_is w 4 x0 = true then
    ab_b2 (sX4_next x0 w) fun v1 w2 =>
    ab_b2 (sX4_isDigit v1 w2) fun v3 w4 =>
    if v3 = 0 then
      if v1 = 33 then
        sX4_readSingle_30 f_X4_readInside x0 x1 v1 w4
      else
      if v1 = 40 then
        sX4_readSingle_30 f_X4_readInside x0 x1 v1 w4
      else
      ab_b2 (sX4_nameOf x0 v1 w4) fun v5 w6 =>
      if v5 < 0 then
        (ab_bool 0).bind fun y => some (y, w6)
      else
      (ab_getI w6 4 x0 1).bind fun v7 =>
      (ab_putI w6 4 x0 1 (v7 + 1)).bind fun w8 =>
      (ab_getR w8 4 x0 0).bind fun v9 =>
      (sX2_add v9 (10000 + v5) w8).bind fun w10 =>
      (ab_bool 1).bind fun y => some (y, w10)
    else
    (sX4_readNumber x0 w4).bind fun w11 =>
    (ab_bool 1).bind fun y => some (y, w11)
  else none
def bX4_readInside (f_X4_readLevel : Nat → Int32 → Int32 → ab_W → Option (Int32 × ab_W)) (f_X4_readSingle : Nat → Int32 → ab_W → Option (Int32 × ab_W)) (x0 : Nat) (x1 : Int32) (x2 : Int32) (w : ab_W) : Option (Int32 × ab_W) :=
  if ab_is w 4 x0 = true then
    (ab_getI w 4 x0 1).bind fun v1 =>
    (ab_putI w 4 x0 1 (v1 + 1)).bind fun w2 =>
    if x1 = 33 then
      ab_b2 (f_X4_readSingle x0 x2 w2) fun v3 w4 =>
      (ab_getR w4 4 x0 0).bind fun v5 =>
      (sX2_add v5 20033 w4).bind fun w6 =>
      (ab_bool v3).bind fun y => some (y, w6)
    else
    ab_b2 (f_X4_readLevel x0 0 x2 w2) fun v7 w8 =>
    if v7 = 0 then
      (ab_bool 0).bind fun y => some (y, w8)
    else
    ab_b2 (sX4_next x0 w8) fun v9 w10 =>
    if v9 = 41 then
      (ab_getI w10 4 x0 1).bind fun v11 =>
      (ab_putI w10 4 x0 1 (v11 + 1)).bind fun w12 =>
      (ab_bool 1).bind fun y => some (y, w12)
    else
    (ab_bool 0).bind fun y => some (y, w10)
  else none
def gpX4_readLevel : Nat → (Nat → Int32 → Int32 → ab_W → Option (Int32 × ab_W)) × (Nat → Int32 → ab_W → Option (Int32 × ab_W)) × (Nat → Int32 → Int32 → ab_W → Option (Int32 × ab_W))
  | 0 => (fun _ _ _ _ => none, fun _ _ _ => none, fun _ _ _ _ => none)
  | n + 1 => (bX4_readLevel ((gpX4_readLevel n).1) ((gpX4_readLevel n).2.1), bX4_readSingle ((gpX4_readLevel n).2.2), bX4_readInside ((gpX4_readLevel n).1) ((gpX4_readLevel n).2.1))
def sX4_readLevel (n : Nat) : Nat → Int32 → Int32 → ab_W → Option (Int32 × ab_W) := (gpX4_readLevel n).1
def sX4_readSingle (n : Nat) : Nat → Int32 → ab_W → Option (Int32 × ab_W) := (gpX4_readLevel n).2.1
def sX4_readInside (n : Nat) : Nat → Int32 → Int32 → ab_W → Option (Int32 × ab_W) := (gpX4_readLevel n).2.2
theorem sX4_readLevel_s (n : Nat) : sX4_readLevel (n + 1) = bX4_readLevel (sX4_readLevel n) (sX4_readSingle n) := rfl
theorem sX4_readSingle_s (n : Nat) : sX4_readSingle (n + 1) = bX4_readSingle (sX4_readInside n) := rfl
theorem sX4_readInside_s (n : Nat) : sX4_readInside (n + 1) = bX4_readInside (sX4_readLevel n) (sX4_readSingle n) := rfl
def sX4_read (x0 : Nat) (x1 : Nat) (x2 : Int32) (x3 : Int32) (w : ab_W) : Option (Int32 × ab_W) :=
  if ab_is w 4 x0 = true then
    (ab_putR w 4 x0 2 x1).bind fun w1 =>
    (ab_len w1 x1).bind fun v2 =>
    (ab_putI w1 4 x0 3 (if v2 < x2 then v2 else x2)).bind fun w3 =>
    (ab_putI w3 4 x0 4 x3).bind fun w4 =>
    (ab_putI w4 4 x0 1 0).bind fun w5 =>
    (ab_getR w5 4 x0 0).bind fun v6 =>
    (sX2_clear v6 w5).bind fun w7 =>
    ab_b2 (sX4_readLevel 100 x0 0 0 w7) fun v8 w9 =>
    if v8 = 0 then
      (ab_bool 0).bind fun y => some (y, w9)
    else
    (ab_getI w9 4 x0 1).bind fun v10 =>
    (ab_getI w9 4 x0 3).bind fun v11 =>
    if v10 = v11 then
      (ab_bool 1).bind fun y => some (y, w9)
    else
    (ab_bool 0).bind fun y => some (y, w9)
  else none
def sX9_text (x0 : Nat) (x1 : Int32) (w : ab_W) : Option (Int32 × ab_W) :=
  if ab_is w 9 x0 = true then
    ab_b2 (sX9_within x1 0 1 w) fun v1 w2 =>
    if v1 = 0 then
      ab_b2 (sX9_fail x0 1 w2) fun v3 w4 =>
      some (v3, w4)
    else
    (ab_getR w2 9 x0 6).bind fun v5 =>
    (ab_getR w2 9 x0 3).bind fun v6 =>
    (ab_getR w2 0 v6 1).bind fun v7 =>
    (ab_getR w2 9 x0 3).bind fun v8 =>
    (ab_getI w2 0 v8 7).bind fun v9 =>
    ab_b2 (sX4_read v5 v7 v9 x1 w2) fun v10 w11 =>
    (ab_getR w11 9 x0 3).bind fun v12 =>
    (ab_putI w11 0 v12 7 0).bind fun w13 =>
    if v10 = 0 then
      (ab_getR w13 9 x0 6).bind fun v14 =>
      (ab_getI w13 4 v14 1).bind fun v15 =>
      some (((-10) - v15), w13)
    else
    (ab_getR w13 9 x0 3).bind fun v16 =>
    (ab_getR w13 0 v16 2).bind fun v17 =>
    (ab_rald w13 2 v17 x1).bind fun v18 =>
    (ab_getR w13 9 x0 6).bind fun v19 =>
    (ab_getR w13 4 v19 0).bind fun v20 =>
    (sX2_copyFrom v18 v20 w13).bind fun w21 =>
    some (1, w21)
  else none
def sX2_isMissing (x0 : Nat) (w : ab_W) : Option (Int32 × ab_W) :=
  if ab_is w 2 x0 = true then
    (ab_getI w 2 x0 2).bind fun v1 =>
    if v1 = 0 then
      (ab_bool 1).bind fun y => some (y, w)
    else
    (ab_bool 0).bind fun y => some (y, w)
  else none
def sX2_joined_100 (w : ab_W) : Option (Int32 × ab_W) :=
    some (1, w)
def sX2_joined (x0 : Int32) (x1 : Int32) (x2 : Int32) (w : ab_W) : Option (Int32 × ab_W) :=
    if x0 = 37 then
      if x2 = 0 then
        some (0, w)
      else
      (ab_rem x1 x2).bind fun v1 =>
      some (v1, w)
    else
    if x0 = 38 then
      if x1 = 0 then
        some (0, w)
      else
      if x2 = 0 then
        some (0, w)
      else
      some (1, w)
    else
    if x0 = 42 then
      some ((x1 * x2), w)
    else
    if x0 = 43 then
      some ((x1 + x2), w)
    else
    if x0 = 45 then
      some ((x1 - x2), w)
    else
    if x0 = 47 then
      if x2 = 0 then
        some (0, w)
      else
      (ab_div x1 x2).bind fun v2 =>
      some (v2, w)
    else
    if x0 = 60 then
      if x1 < x2 then
        some (1, w)
      else
      some (0, w)
    else
    if x0 = 61 then
      if x1 = x2 then
        some (1, w)
      else
      some (0, w)
    else
    if x0 = 62 then
      if x2 < x1 then
        some (1, w)
      else
      some (0, w)
    else
    if x0 = 124 then
      if x1 = 0 then
        if x2 = 0 then
          some (0, w)
        else
        sX2_joined_100 w
      else
      sX2_joined_100 w
    else
    some (0, w)
def sX2_valueOf (x0 : Int32) (x1 : Int32) (x2 : Int32) (x3 : Int32) (w : ab_W) : Option (Int32 × ab_W) :=
    if (x0 - 10000) = 0 then
      some (x1, w)
    else
    if (x0 - 10000) = 1 then
      some (x2, w)
    else
    if (x0 - 10000) = 2 then
      some (x3, w)
    else
    some (x0, w)
def sX2_workOut_145 (k6 : Nat → Int32 → Int32 → Int32 → Int32 → Int32 → ab_W → Option (Int32 × ab_W)) (x0 : Nat) (x1 : Int32) (x2 : Int32) (x3 : Int32) (x4 : Int32) (x5 : Int32) (w : ab_W) : Option (Int32 × ab_W) :=
    k6 x0 x1 x2 x3 x4 (x5 + 1) w
def sX2_workOut_98 (k6 : Nat → Int32 → Int32 → Int32 → Int32 → Int32 → ab_W → Option (Int32 × ab_W)) (x0 : Nat) (x1 : Int32) (x2 : Int32) (x3 : Int32) (x4 : Int32) (x5 : Int32) (p0 : Nat) (p1 : Int32) (p2 : Int32) (w : ab_W) : Option (Int32 × ab_W) :=
    (ab_ast w p0 p1 p2).bind fun w1 =>
    sX2_workOut_145 k6 x0 x1 x2 x3 x4 x5 w1
def sX2_workOut_6 : Nat → Nat → Int32 → Int32 → Int32 → Int32 → Int32 → ab_W → Option (Int32 × ab_W)
  | 0, _, _, _, _, _, _, _ => none
  | n + 1, x0, x1, x2, x3, x4, x5, w =>
    (ab_getI w 2 x0 2).bind fun v1 =>
    if x5 < v1 then
      (ab_getR w 2 x0 0).bind fun v2 =>
      (ab_ald w v2 x5).bind fun v3 =>
      if v3 < 20000 then
        if x4 < 50 then
          (ab_getR w 2 x0 1).bind fun v4 =>
          ab_b2 (sX2_valueOf v3 x1 x2 x3 w) fun v5 w6 =>
          (ab_ast w6 v4 x4 v5).bind fun w7 =>
          sX2_workOut_145 (sX2_workOut_6 n) x0 x1 x2 x3 (x4 + 1) x5 w7
        else
        sX2_workOut_145 (sX2_workOut_6 n) x0 x1 x2 x3 x4 x5 w
      else
      if v3 = 20033 then
        if 0 < x4 then
          (ab_getR w 2 x0 1).bind fun v8 =>
          (ab_getR w 2 x0 1).bind fun v9 =>
          (ab_ald w v9 (x4 - 1)).bind fun v10 =>
          if v10 = 0 then
            sX2_workOut_98 (sX2_workOut_6 n) x0 x1 x2 x3 x4 x5 v8 (x4 - 1) 1 w
          else
          sX2_workOut_98 (sX2_workOut_6 n) x0 x1 x2 x3 x4 x5 v8 (x4 - 1) 0 w
        else
        sX2_workOut_145 (sX2_workOut_6 n) x0 x1 x2 x3 x4 x5 w
      else
      if 1 < x4 then
        (ab_getR w 2 x0 1).bind fun v11 =>
        (ab_getR w 2 x0 1).bind fun v12 =>
        (ab_ald w v12 ((x4 + (-1)) - 1)).bind fun v13 =>
        (ab_getR w 2 x0 1).bind fun v14 =>
        (ab_ald w v14 (x4 + (-1))).bind fun v15 =>
        ab_b2 (sX2_joined (v3 - 20000) v13 v15 w) fun v16 w17 =>
        (ab_ast w17 v11 ((x4 + (-1)) - 1) v16).bind fun w18 =>
        sX2_workOut_145 (sX2_workOut_6 n) x0 x1 x2 x3 (x4 + (-1)) x5 w18
      else
      sX2_workOut_145 (sX2_workOut_6 n) x0 x1 x2 x3 x4 x5 w
    else
    if 0 < x4 then
      (ab_getR w 2 x0 1).bind fun v19 =>
      (ab_ald w v19 0).bind fun v20 =>
      some (v20, w)
    else
    some (0, w)
def sX2_workOut (x0 : Nat) (x1 : Int32) (x2 : Int32) (x3 : Int32) (w : ab_W) : Option (Int32 × ab_W) :=
  if ab_is w 2 x0 = true then
    sX2_workOut_6 1000 x0 x1 x2 x3 0 0 w
  else none
def sX0_gives_85 (p0 : Int32) (w : ab_W) : Option (Int32 × ab_W) :=
    some ((if 0 < (if p0 < 999 then p0 else 999) then (if p0 < 999 then p0 else 999) else 0), w)
def sX0_gives_39 (p0 : Int32) (w : ab_W) : Option (Int32 × ab_W) :=
    some ((if 0 < (if p0 < 99 then p0 else 99) then (if p0 < 99 then p0 else 99) else 0), w)
def sX0_gives (x0 : Nat) (x1 : Int32) (x2 : Int32) (x3 : Int32) (x4 : Int32) (w : ab_W) : Option (Int32 × ab_W) :=
  if ab_is w 0 x0 = true then
    if x1 = 0 then
      (ab_getR w 0 x0 2).bind fun v1 =>
      (ab_rald w 2 v1 0).bind fun v2 =>
      ab_b2 (sX2_isMissing v2 w) fun v3 w4 =>
      if v3 = 0 then
        (ab_getR w4 0 x0 2).bind fun v5 =>
        (ab_rald w4 2 v5 0).bind fun v6 =>
        ab_b2 (sX2_workOut v6 x2 x3 x4 w4) fun v7 w8 =>
        sX0_gives_39 v7 w8
      else
      sX0_gives_39 ((9 - x2) + x4) w4
    else
    (ab_getR w 0 x0 2).bind fun v9 =>
    (ab_rald w 2 v9 1).bind fun v10 =>
    ab_b2 (sX2_isMissing v10 w) fun v11 w12 =>
    if v11 = 0 then
      (ab_getR w12 0 x0 2).bind fun v13 =>
      (ab_rald w12 2 v13 1).bind fun v14 =>
      ab_b2 (sX2_workOut v14 x2 x3 x4 w12) fun v15 w16 =>
      sX0_gives_85 v15 w16
    else
    (ab_div x3 10).bind fun v17 =>
    sX0_gives_85 v17 w12
  else none
def sX9_law (x0 : Nat) (x1 : Int32) (x2 : Int32) (x3 : Int32) (x4 : Int32) (w : ab_W) : Option (Int32 × ab_W) :=
  if ab_is w 9 x0 = true then
    ab_b2 (sX9_within x1 0 1 w) fun v1 w2 =>
    if v1 = 0 then
      ab_b2 (sX9_fail x0 1 w2) fun v3 w4 =>
      some (v3, w4)
    else
    (ab_getR w2 9 x0 3).bind fun v5 =>
    ab_b2 (sX0_gives v5 x1 x2 x3 x4 w2) fun v6 w7 =>
    some (v6, w7)
  else none
def sX0_debtOfAll_4 : Nat → Nat → Int32 → Int32 → ab_W → Option (Int32 × ab_W)
  | 0, _, _, _, _ => none
  | n + 1, x0, x1, x2, w =>
    (ab_getI w 0 x0 4).bind fun v1 =>
    if x2 < v1 then
      (ab_getR w 0 x0 0).bind fun v2 =>
      (ab_rald w 1 v2 x2).bind fun v3 =>
      (ab_getI w 3 v3 2).bind fun v4 =>
      sX0_debtOfAll_4 n x0 (x1 + v4) (x2 + 1) w
    else
    some (x1, w)
def sX0_debtOfAll (x0 : Nat) (w : ab_W) : Option (Int32 × ab_W) :=
  if ab_is w 0 x0 = true then
    sX0_debtOfAll_4 1000 x0 0 0 w
  else none
def sX1_go_20 (x0 : Nat) (w : ab_W) : Option (ab_W) :=
    (ab_getI w 1 x0 0).bind fun v1 =>
    (ab_getI w 1 x0 4).bind fun v2 =>
    (ab_putI w 1 x0 0 (if (v1 + v2) < 999 then (v1 + v2) else 999)).bind fun w3 =>
    some w3
def sX1_go (x0 : Nat) (x1 : Int32) (w : ab_W) : Option (ab_W) :=
  if ab_is w 1 x0 = true then
    (ab_getI w 1 x0 2).bind fun v1 =>
    if v1 = 0 then
      some w
    else
    (ab_getI w 1 x0 3).bind fun v2 =>
    if v2 = 0 then
      sX1_go_20 x0 w
    else
    (ab_rem x1 5).bind fun v3 =>
    if v3 = 0 then
      some w
    else
    sX1_go_20 x0 w
  else none
def sX1_goAndLapse (x0 : Nat) (x1 : Nat) (x2 : Int32) (w : ab_W) : Option (ab_W) :=
  if ab_is w 1 x0 = true then
    (sX1_go x0 x2 w).bind fun w1 =>
    (ab_getI w1 1 x0 2).bind fun v2 =>
    if v2 = 0 then
      some w1
    else
    (ab_getI w1 1 x0 1).bind fun v3 =>
    if 0 < v3 then
      (ab_getI w1 1 x0 1).bind fun v4 =>
      (ab_getI w1 1 x0 1).bind fun v5 =>
      (ab_getI w1 1 x0 0).bind fun v6 =>
      (ab_rem x2 7).bind fun v7 =>
      ab_b2 (sX0_gives x1 1 v5 v6 v7 w1) fun v8 w9 =>
      (ab_putI w9 1 x0 1 (if 0 < (v4 - v8) then (v4 - v8) else 0)).bind fun w10 =>
      some w10
    else
    some w1
  else none
def sX1_begin_35 (x0 : Nat) (p0 : Nat) (p1 : Int32) (w : ab_W) : Option (ab_W) :=
    (ab_putZ w 1 p0 3 p1).bind fun w1 =>
    (ab_putI w1 1 x0 4 0).bind fun w2 =>
    some w2
def sX1_begin (x0 : Nat) (x1 : Nat) (x2 : Int32) (w : ab_W) : Option (ab_W) :=
  if ab_is w 1 x0 = true then
    (ab_getI w 3 x1 5).bind fun v1 =>
    (ab_putI w 1 x0 0 v1).bind fun w2 =>
    (ab_getI w2 3 x1 2).bind fun v3 =>
    (ab_putI w2 1 x0 1 v3).bind fun w4 =>
    (ab_putZ w4 1 x0 2 x2).bind fun w5 =>
    (ab_getI w5 3 x1 0).bind fun v6 =>
    if v6 = 5 then
      sX1_begin_35 x0 x0 1 w5
    else
    sX1_begin_35 x0 x0 0 w5
  else none
def sX1_pace (x0 : Nat) (x1 : Int32) (x2 : Int32) (x3 : Int32) (x4 : Int32) (w : ab_W) : Option (ab_W) :=
  if ab_is w 1 x0 = true then
    if x1 = 1 then
      (ab_putI w 1 x0 4 (2 * x2)).bind fun w1 =>
      some w1
    else
    if x1 = 2 then
      (ab_putI w 1 x0 4 (x2 + x3)).bind fun w2 =>
      some w2
    else
    if x1 = 3 then
      (ab_putI w 1 x0 4 (if 0 < (x2 - x4) then (x2 - x4) else 0)).bind fun w3 =>
      some w3
    else
    if x1 = 4 then
      (ab_putI w 1 x0 4 (2 * x2)).bind fun w4 =>
      some w4
    else
    if x1 = 5 then
      (ab_putI w 1 x0 4 (x2 + x3)).bind fun w5 =>
      some w5
    else
    if x1 = 6 then
      (ab_div x2 2).bind fun v6 =>
      (ab_putI w 1 x0 4 v6).bind fun w7 =>
      some w7
    else
    (ab_putI w 1 x0 4 x2).bind fun w8 =>
    some w8
  else none
def sX7_pace (x0 : Nat) (x1 : Nat) (x2 : Nat) (x3 : Int32) (x4 : Int32) (x5 : Int32) (w : ab_W) : Option (ab_W) :=
  if ab_is w 7 x0 = true then
    (ab_getR w 6 x2 0).bind fun v1 =>
    (ab_ald w v1 x4).bind fun v2 =>
    (ab_getR w 6 x2 1).bind fun v3 =>
    (ab_ald w v3 x4).bind fun v4 =>
    (ab_getR w 7 x0 4).bind fun v5 =>
    ab_b2 (sX0_gives x1 0 v2 v4 x5 w) fun v6 w7 =>
    (sX1_pace v5 x3 v6 v2 v4 w7).bind fun w8 =>
    some w8
  else none
def sX7_follow (x0 : Nat) (x1 : Nat) (x2 : Nat) (x3 : Nat) (x4 : Int32) (w : ab_W) : Option (ab_W) :=
  if ab_is w 7 x0 = true then
    (ab_getR w 7 x0 4).bind fun v1 =>
    (sX1_begin v1 x3 x4 w).bind fun w2 =>
    (ab_getI w2 3 x3 0).bind fun v3 =>
    (ab_getI w2 3 x3 3).bind fun v4 =>
    (ab_getI w2 0 x1 6).bind fun v5 =>
    (sX7_pace x0 x1 x2 v3 v4 v5 w2).bind fun w6 =>
    some w6
  else none
def sX7_debtBehind_17 : Nat → Nat → Nat → Int32 → Int32 → ab_W → Option (Int32 × ab_W)
  | 0, _, _, _, _, _ => none
  | n + 1, x0, x1, x5, x6, w =>
    if x6 < x5 then
      (ab_getR w 7 x0 4).bind fun v1 =>
      (ab_getI w 0 x1 5).bind fun v2 =>
      (sX1_goAndLapse v1 x1 (v2 + x6) w).bind fun w3 =>
      sX7_debtBehind_17 n x0 x1 x5 (x6 + 1) w3
    else
    (ab_getR w 7 x0 4).bind fun v4 =>
    (ab_getI w 1 v4 1).bind fun v5 =>
    some (v5, w)
def sX7_debtBehind (x0 : Nat) (x1 : Nat) (x2 : Nat) (x3 : Int32) (x4 : Int32) (x5 : Int32) (w : ab_W) : Option (Int32 × ab_W) :=
  if ab_is w 7 x0 = true then
    (ab_getR w 0 x1 0).bind fun v1 =>
    (ab_rald w 1 v1 x3).bind fun v2 =>
    (sX7_follow x0 x1 x2 v2 x4 w).bind fun w3 =>
    sX7_debtBehind_17 1000 x0 x1 x5 0 w3
  else none
def sX7_pass_56 (k3 : Nat → Nat → Nat → Int32 → Int32 → ab_W → Option (ab_W)) (x0 : Nat) (x1 : Nat) (x2 : Nat) (x3 : Int32) (x4 : Int32) (w : ab_W) : Option (ab_W) :=
    k3 x0 x1 x2 x3 (x4 + 1) w
def sX7_pass_3 : Nat → Nat → Nat → Nat → Int32 → Int32 → ab_W → Option (ab_W)
  | 0, _, _, _, _, _, _ => none
  | n + 1, x0, x1, x2, x3, x4, w =>
    (ab_getI w 0 x1 4).bind fun v1 =>
    if x4 < v1 then
      (ab_getR w 0 x1 0).bind fun v2 =>
      (ab_rald w 1 v2 x4).bind fun v3 =>
      (ab_getI w 3 v3 4).bind fun v4 =>
      if v4 = 0 then
        sX7_pass_56 (sX7_pass_3 n) x0 x1 x2 x3 x4 w
      else
      ab_b2 (sX7_debtBehind x0 x1 x2 x4 1 x3 w) fun v5 w6 =>
      (ab_putI w6 3 v3 2 v5).bind fun w7 =>
      (ab_getR w7 7 x0 4).bind fun v8 =>
      (ab_getI w7 1 v8 0).bind fun v9 =>
      (ab_putI w7 3 v3 5 v9).bind fun w10 =>
      sX7_pass_56 (sX7_pass_3 n) x0 x1 x2 x3 x4 w10
    else
    (ab_getI w 0 x1 5).bind fun v11 =>
    (ab_putI w 0 x1 5 (v11 + x3)).bind fun w12 =>
    some w12
def sX7_pass (x0 : Nat) (x1 : Nat) (x2 : Nat) (x3 : Int32) (w : ab_W) : Option (ab_W) :=
  if ab_is w 7 x0 = true then
    sX7_pass_3 1000 x0 x1 x2 x3 0 w
  else none
def sX9_days (x0 : Nat) (x1 : Int32) (w : ab_W) : Option (Int32 × ab_W) :=
  if ab_is w 9 x0 = true then
    ab_b2 (sX9_within x1 1 60 w) fun v1 w2 =>
    if v1 = 0 then
      ab_b2 (sX9_fail x0 1 w2) fun v3 w4 =>
      some (v3, w4)
    else
    (ab_getR w2 9 x0 3).bind fun v5 =>
    (ab_getI w2 0 v5 5).bind fun v6 =>
    if 9999 < (v6 + x1) then
      ab_b2 (sX9_fail x0 3 w2) fun v7 w8 =>
      some (v7, w8)
    else
    (ab_getR w2 9 x0 5).bind fun v9 =>
    (ab_getR w2 9 x0 3).bind fun v10 =>
    (ab_getR w2 9 x0 2).bind fun v11 =>
    (sX7_pass v9 v10 v11 x1 w2).bind fun w12 =>
    (ab_getR w12 9 x0 3).bind fun v13 =>
    ab_b2 (sX0_debtOfAll v13 w12) fun v14 w15 =>
    some (v14, w15)
  else none
def sX0_draw (x0 : Nat) (w : ab_W) : Option (Int32 × ab_W) :=
  if ab_is w 0 x0 = true then
    (ab_getI w 0 x0 9).bind fun v1 =>
    (ab_putI w 0 x0 9 ((v1 * 1103515245) + 12345)).bind fun w2 =>
    (ab_getI w2 0 x0 9).bind fun v3 =>
    some (((v3 : Int32).toUInt32 >>> ((8 : Int32).toUInt32 &&& Int32.toUInt32 31)).toInt32, w2)
  else none
def sX9_loose_39 : Nat → Nat → Int32 → Int32 → ab_W → Option (Int32 × ab_W)
  | 0, _, _, _, _ => none
  | n + 1, x0, x1, x2, w =>
    if x2 < x1 then
      (ab_getR w 9 x0 3).bind fun v1 =>
      (ab_getR w 9 x0 3).bind fun v2 =>
      ab_b2 (sX0_draw v2 w) fun v3 w4 =>
      (ab_rem v3 10).bind fun v5 =>
      (ab_putI w4 0 v1 6 v5).bind fun w6 =>
      (ab_getR w6 9 x0 5).bind fun v7 =>
      (ab_getR w6 9 x0 3).bind fun v8 =>
      (ab_getR w6 9 x0 2).bind fun v9 =>
      (sX7_pass v7 v8 v9 1 w6).bind fun w10 =>
      sX9_loose_39 n x0 x1 (x2 + 1) w10
    else
    (ab_getR w 9 x0 3).bind fun v11 =>
    ab_b2 (sX0_debtOfAll v11 w) fun v12 w13 =>
    some (v12, w13)
def sX9_loose (x0 : Nat) (x1 : Int32) (w : ab_W) : Option (Int32 × ab_W) :=
  if ab_is w 9 x0 = true then
    ab_b2 (sX9_within x1 1 40 w) fun v1 w2 =>
    if v1 = 0 then
      ab_b2 (sX9_fail x0 1 w2) fun v3 w4 =>
      some (v3, w4)
    else
    (ab_getR w2 9 x0 3).bind fun v5 =>
    (ab_getI w2 0 v5 5).bind fun v6 =>
    if 9999 < (v6 + x1) then
      ab_b2 (sX9_fail x0 3 w2) fun v7 w8 =>
      some (v7, w8)
    else
    sX9_loose_39 1000 x0 x1 0 w2
  else none
def sX9_shape_19 (x0 : Nat) (w : ab_W) : Option (Int32 × ab_W) :=
    ab_b2 (sX9_fail x0 1 w) fun v1 w2 =>
    some (v1, w2)
def sX9_shape (x0 : Nat) (x1 : Int32) (x2 : Int32) (w : ab_W) : Option (Int32 × ab_W) :=
  if ab_is w 9 x0 = true then
    ab_b2 (sX9_within x1 0 127 w) fun v1 w2 =>
    if v1 = 0 then
      sX9_shape_19 x0 w2
    else
    ab_b2 (sX9_within x2 0 1 w2) fun v3 w4 =>
    if v3 = 0 then
      sX9_shape_19 x0 w4
    else
    if x2 = 0 then
      (ab_getR w4 9 x0 2).bind fun v5 =>
      (ab_getR w4 6 v5 0).bind fun v6 =>
      (ab_ald w4 v6 x1).bind fun v7 =>
      some (v7, w4)
    else
    (ab_getR w4 9 x0 2).bind fun v8 =>
    (ab_getR w4 6 v8 1).bind fun v9 =>
    (ab_ald w4 v9 x1).bind fun v10 =>
    some (v10, w4)
  else none
def sJ6_bitCount_0f7a4 (x0 : Int32) (w : ab_W) : Option (Int32 × ab_W) :=
    some (((((((((x0 - (((x0 : Int32).toUInt32 >>> ((1 : Int32).toUInt32 &&& Int32.toUInt32 31)).toInt32 &&& 1431655765)) &&& 858993459) + ((((x0 - (((x0 : Int32).toUInt32 >>> ((1 : Int32).toUInt32 &&& Int32.toUInt32 31)).toInt32 &&& 1431655765)) : Int32).toUInt32 >>> ((2 : Int32).toUInt32 &&& Int32.toUInt32 31)).toInt32 &&& 858993459)) + (((((x0 - (((x0 : Int32).toUInt32 >>> ((1 : Int32).toUInt32 &&& Int32.toUInt32 31)).toInt32 &&& 1431655765)) &&& 858993459) + ((((x0 - (((x0 : Int32).toUInt32 >>> ((1 : Int32).toUInt32 &&& Int32.toUInt32 31)).toInt32 &&& 1431655765)) : Int32).toUInt32 >>> ((2 : Int32).toUInt32 &&& Int32.toUInt32 31)).toInt32 &&& 858993459)) : Int32).toUInt32 >>> ((4 : Int32).toUInt32 &&& Int32.toUInt32 31)).toInt32) &&& 252645135) + (((((((x0 - (((x0 : Int32).toUInt32 >>> ((1 : Int32).toUInt32 &&& Int32.toUInt32 31)).toInt32 &&& 1431655765)) &&& 858993459) + ((((x0 - (((x0 : Int32).toUInt32 >>> ((1 : Int32).toUInt32 &&& Int32.toUInt32 31)).toInt32 &&& 1431655765)) : Int32).toUInt32 >>> ((2 : Int32).toUInt32 &&& Int32.toUInt32 31)).toInt32 &&& 858993459)) + (((((x0 - (((x0 : Int32).toUInt32 >>> ((1 : Int32).toUInt32 &&& Int32.toUInt32 31)).toInt32 &&& 1431655765)) &&& 858993459) + ((((x0 - (((x0 : Int32).toUInt32 >>> ((1 : Int32).toUInt32 &&& Int32.toUInt32 31)).toInt32 &&& 1431655765)) : Int32).toUInt32 >>> ((2 : Int32).toUInt32 &&& Int32.toUInt32 31)).toInt32 &&& 858993459)) : Int32).toUInt32 >>> ((4 : Int32).toUInt32 &&& Int32.toUInt32 31)).toInt32) &&& 252645135) : Int32).toUInt32 >>> ((8 : Int32).toUInt32 &&& Int32.toUInt32 31)).toInt32) + ((((((((x0 - (((x0 : Int32).toUInt32 >>> ((1 : Int32).toUInt32 &&& Int32.toUInt32 31)).toInt32 &&& 1431655765)) &&& 858993459) + ((((x0 - (((x0 : Int32).toUInt32 >>> ((1 : Int32).toUInt32 &&& Int32.toUInt32 31)).toInt32 &&& 1431655765)) : Int32).toUInt32 >>> ((2 : Int32).toUInt32 &&& Int32.toUInt32 31)).toInt32 &&& 858993459)) + (((((x0 - (((x0 : Int32).toUInt32 >>> ((1 : Int32).toUInt32 &&& Int32.toUInt32 31)).toInt32 &&& 1431655765)) &&& 858993459) + ((((x0 - (((x0 : Int32).toUInt32 >>> ((1 : Int32).toUInt32 &&& Int32.toUInt32 31)).toInt32 &&& 1431655765)) : Int32).toUInt32 >>> ((2 : Int32).toUInt32 &&& Int32.toUInt32 31)).toInt32 &&& 858993459)) : Int32).toUInt32 >>> ((4 : Int32).toUInt32 &&& Int32.toUInt32 31)).toInt32) &&& 252645135) + (((((((x0 - (((x0 : Int32).toUInt32 >>> ((1 : Int32).toUInt32 &&& Int32.toUInt32 31)).toInt32 &&& 1431655765)) &&& 858993459) + ((((x0 - (((x0 : Int32).toUInt32 >>> ((1 : Int32).toUInt32 &&& Int32.toUInt32 31)).toInt32 &&& 1431655765)) : Int32).toUInt32 >>> ((2 : Int32).toUInt32 &&& Int32.toUInt32 31)).toInt32 &&& 858993459)) + (((((x0 - (((x0 : Int32).toUInt32 >>> ((1 : Int32).toUInt32 &&& Int32.toUInt32 31)).toInt32 &&& 1431655765)) &&& 858993459) + ((((x0 - (((x0 : Int32).toUInt32 >>> ((1 : Int32).toUInt32 &&& Int32.toUInt32 31)).toInt32 &&& 1431655765)) : Int32).toUInt32 >>> ((2 : Int32).toUInt32 &&& Int32.toUInt32 31)).toInt32 &&& 858993459)) : Int32).toUInt32 >>> ((4 : Int32).toUInt32 &&& Int32.toUInt32 31)).toInt32) &&& 252645135) : Int32).toUInt32 >>> ((8 : Int32).toUInt32 &&& Int32.toUInt32 31)).toInt32) : Int32).toUInt32 >>> ((16 : Int32).toUInt32 &&& Int32.toUInt32 31)).toInt32) &&& 63), w)
def sX6_isFewer_15 (w : ab_W) : Option (Int32 × ab_W) :=
    (ab_bool 1).bind fun y => some (y, w)
def sX6_isFewer (x0 : Nat) (x1 : Int32) (x2 : Int32) (w : ab_W) : Option (Int32 × ab_W) :=
  if ab_is w 6 x0 = true then
    if x2 < 0 then
      sX6_isFewer_15 w
    else
    ab_b2 (sJ6_bitCount_0f7a4 x1 w) fun v1 w2 =>
    ab_b2 (sJ6_bitCount_0f7a4 x2 w2) fun v3 w4 =>
    if v1 < v3 then
      sX6_isFewer_15 w4
    else
    (ab_bool 0).bind fun y => some (y, w4)
  else none
def sX6_fewestCreases_48 (k5 : Nat → Int32 → Int32 → Int32 → Int32 → ab_W → Option (Int32 × ab_W)) (x0 : Nat) (x1 : Int32) (x2 : Int32) (x3 : Int32) (x4 : Int32) (w : ab_W) : Option (Int32 × ab_W) :=
    k5 x0 x1 x2 x3 (x4 + 1) w
def sX6_fewestCreases_5 : Nat → Nat → Int32 → Int32 → Int32 → Int32 → ab_W → Option (Int32 × ab_W)
  | 0, _, _, _, _, _, _ => none
  | n + 1, x0, x1, x2, x3, x4, w =>
    if x4 < 128 then
      (ab_getR w 6 x0 0).bind fun v1 =>
      (ab_ald w v1 x4).bind fun v2 =>
      if x1 < v2 then
        sX6_fewestCreases_48 (sX6_fewestCreases_5 n) x0 x1 x2 x3 x4 w
      else
      (ab_getR w 6 x0 1).bind fun v3 =>
      (ab_ald w v3 x4).bind fun v4 =>
      if x2 < v4 then
        sX6_fewestCreases_48 (sX6_fewestCreases_5 n) x0 x1 x2 x3 x4 w
      else
      ab_b2 (sX6_isFewer x0 x4 x3 w) fun v5 w6 =>
      if v5 = 0 then
        sX6_fewestCreases_48 (sX6_fewestCreases_5 n) x0 x1 x2 x3 x4 w6
      else
      sX6_fewestCreases_48 (sX6_fewestCreases_5 n) x0 x1 x2 x4 x4 w6
    else
    some (x3, w)
def sX6_fewestCreases (x0 : Nat) (x1 : Int32) (x2 : Int32) (w : ab_W) : Option (Int32 × ab_W) :=
  if ab_is w 6 x0 = true then
    sX6_fewestCreases_5 1000 x0 x1 x2 (-1) 0 w
  else none
def sX9_orNone (x0 : Nat) (x1 : Int32) (w : ab_W) : Option (Int32 × ab_W) :=
  if ab_is w 9 x0 = true then
    if x1 < 0 then
      ab_b2 (sX9_fail x0 2 w) fun v1 w2 =>
      some (v1, w2)
    else
    some (x1, w)
  else none
def sX9_least_20 (x0 : Nat) (w : ab_W) : Option (Int32 × ab_W) :=
    ab_b2 (sX9_fail x0 1 w) fun v1 w2 =>
    some (v1, w2)
def sX9_least (x0 : Nat) (x1 : Int32) (x2 : Int32) (w : ab_W) : Option (Int32 × ab_W) :=
  if ab_is w 9 x0 = true then
    ab_b2 (sX9_within x1 1 8 w) fun v1 w2 =>
    if v1 = 0 then
      sX9_least_20 x0 w2
    else
    ab_b2 (sX9_within x2 1 8 w2) fun v3 w4 =>
    if v3 = 0 then
      sX9_least_20 x0 w4
    else
    (ab_getR w4 9 x0 2).bind fun v5 =>
    ab_b2 (sX6_fewestCreases v5 x1 x2 w4) fun v6 w7 =>
    ab_b2 (sX9_orNone x0 v6 w7) fun v8 w9 =>
    some (v8, w9)
  else none
def sX6_howMany_38 (k5 : Nat → Int32 → Int32 → Int32 → Int32 → ab_W → Option (Int32 × ab_W)) (x0 : Nat) (x1 : Int32) (x2 : Int32) (x3 : Int32) (x4 : Int32) (w : ab_W) : Option (Int32 × ab_W) :=
    k5 x0 x1 x2 x3 (x4 + 1) w
def sX6_howMany_5 : Nat → Nat → Int32 → Int32 → Int32 → Int32 → ab_W → Option (Int32 × ab_W)
  | 0, _, _, _, _, _, _ => none
  | n + 1, x0, x1, x2, x3, x4, w =>
    if x4 < 128 then
      (ab_getR w 6 x0 0).bind fun v1 =>
      (ab_ald w v1 x4).bind fun v2 =>
      if v2 = x1 then
        (ab_getR w 6 x0 1).bind fun v3 =>
        (ab_ald w v3 x4).bind fun v4 =>
        if v4 = x2 then
          sX6_howMany_38 (sX6_howMany_5 n) x0 x1 x2 (x3 + 1) x4 w
        else
        sX6_howMany_38 (sX6_howMany_5 n) x0 x1 x2 x3 x4 w
      else
      sX6_howMany_38 (sX6_howMany_5 n) x0 x1 x2 x3 x4 w
    else
    some (x3, w)
def sX6_howMany (x0 : Nat) (x1 : Int32) (x2 : Int32) (w : ab_W) : Option (Int32 × ab_W) :=
  if ab_is w 6 x0 = true then
    sX6_howMany_5 1000 x0 x1 x2 0 0 w
  else none
def sX6_leastOf_31 (k2 : Nat → Int32 → Int32 → Int32 → ab_W → Option (Int32 × ab_W)) (x0 : Nat) (x1 : Int32) (x2 : Int32) (x3 : Int32) (w : ab_W) : Option (Int32 × ab_W) :=
    k2 x0 x1 x2 (x3 + 1) w
def sX6_leastOf_2 : Nat → Nat → Int32 → Int32 → Int32 → ab_W → Option (Int32 × ab_W)
  | 0, _, _, _, _, _ => none
  | n + 1, x0, x1, x2, x3, w =>
    if x3 < 128 then
      (ab_getR w 6 x0 0).bind fun v1 =>
      (ab_ald w v1 x3).bind fun v2 =>
      if v2 = x1 then
        (ab_getR w 6 x0 1).bind fun v3 =>
        (ab_ald w v3 x3).bind fun v4 =>
        if v4 = x2 then
          some (x3, w)
        else
        sX6_leastOf_31 (sX6_leastOf_2 n) x0 x1 x2 x3 w
      else
      sX6_leastOf_31 (sX6_leastOf_2 n) x0 x1 x2 x3 w
    else
    some ((-1), w)
def sX6_leastOf (x0 : Nat) (x1 : Int32) (x2 : Int32) (w : ab_W) : Option (Int32 × ab_W) :=
  if ab_is w 6 x0 = true then
    sX6_leastOf_2 1000 x0 x1 x2 0 w
  else none
def sX9_shapes_29 (x0 : Nat) (w : ab_W) : Option (Int32 × ab_W) :=
    ab_b2 (sX9_fail x0 1 w) fun v1 w2 =>
    some (v1, w2)
def sX9_shapes (x0 : Nat) (x1 : Int32) (x2 : Int32) (x3 : Int32) (w : ab_W) : Option (Int32 × ab_W) :=
  if ab_is w 9 x0 = true then
    ab_b2 (sX9_within x1 1 8 w) fun v1 w2 =>
    if v1 = 0 then
      sX9_shapes_29 x0 w2
    else
    ab_b2 (sX9_within x2 1 8 w2) fun v3 w4 =>
    if v3 = 0 then
      sX9_shapes_29 x0 w4
    else
    ab_b2 (sX9_within x3 0 1 w4) fun v5 w6 =>
    if v5 = 0 then
      sX9_shapes_29 x0 w6
    else
    if x3 = 0 then
      (ab_getR w6 9 x0 2).bind fun v7 =>
      ab_b2 (sX6_howMany v7 x1 x2 w6) fun v8 w9 =>
      some (v8, w9)
    else
    (ab_getR w6 9 x0 2).bind fun v10 =>
    ab_b2 (sX6_leastOf v10 x1 x2 w6) fun v11 w12 =>
    ab_b2 (sX9_orNone x0 v11 w12) fun v13 w14 =>
    some (v13, w14)
  else none
def sJ7_fill_53178_5 : Nat → Nat → Int32 → Int32 → Int32 → ab_W → Option (ab_W)
  | 0, _, _, _, _, _ => none
  | n + 1, x0, x1, x2, x3, w =>
    if x2 < x3 then
      (ab_ast w x0 x2 x1).bind fun w1 =>
      sJ7_fill_53178_5 n x0 x1 (x2 + 1) x3 w1
    else
    some w
def sJ7_fill_53178 (x0 : Nat) (x1 : Int32) (w : ab_W) : Option (ab_W) :=
    (ab_len w x0).bind fun v1 =>
    sJ7_fill_53178_5 1000 x0 x1 0 v1 w
def sX6_fewestFolds_140 (x0 : Nat) (x2 : Int32) (w : ab_W) : Option (Int32 × ab_W) :=
    (ab_getR w 6 x0 3).bind fun v1 =>
    (ab_ald w v1 x2).bind fun v2 =>
    some (v2, w)
def sX6_fewestFolds_128 (k28 : Nat → Int32 → Int32 → Int32 → Int32 → ab_W → Option (Int32 × ab_W)) (k55 : Nat → Int32 → Int32 → Int32 → Int32 → Int32 → Int32 → ab_W → Option (Int32 × ab_W)) (x0 : Nat) (x2 : Int32) (x3 : Int32) (x4 : Int32) (x5 : Int32) (x6 : Int32) (x7 : Int32) (w : ab_W) : Option (Int32 × ab_W) :=
    k55 x0 x2 x3 x4 x5 x6 (x7 + 1) w
def sX6_fewestFolds_55 (k28 : Nat → Int32 → Int32 → Int32 → Int32 → ab_W → Option (Int32 × ab_W)) : Nat → Nat → Int32 → Int32 → Int32 → Int32 → Int32 → Int32 → ab_W → Option (Int32 × ab_W)
  | 0, _, _, _, _, _, _, _, _ => none
  | n + 1, x0, x2, x3, x4, x5, x6, x7, w =>
    if x7 < 7 then
      (ab_getR w 6 x0 3).bind fun v1 =>
      (ab_ald w v1 (x6 ^^^ (1 <<< (x7 &&& 31)))).bind fun v2 =>
      if v2 < 0 then
        (ab_getR w 6 x0 1).bind fun v3 =>
        (ab_ald w v3 (x6 ^^^ (1 <<< (x7 &&& 31)))).bind fun v4 =>
        if x3 < v4 then
          sX6_fewestFolds_128 k28 (sX6_fewestFolds_55 k28 n) x0 x2 x3 x4 x5 x6 x7 w
        else
        if x4 < 128 then
          (ab_getR w 6 x0 3).bind fun v5 =>
          (ab_getR w 6 x0 3).bind fun v6 =>
          (ab_ald w v6 x6).bind fun v7 =>
          (ab_ast w v5 (x6 ^^^ (1 <<< (x7 &&& 31))) (v7 + 1)).bind fun w8 =>
          (ab_getR w8 6 x0 4).bind fun v9 =>
          (ab_ast w8 v9 x4 (x6 ^^^ (1 <<< (x7 &&& 31)))).bind fun w10 =>
          sX6_fewestFolds_128 k28 (sX6_fewestFolds_55 k28 n) x0 x2 x3 (x4 + 1) x5 x6 x7 w10
        else
        sX6_fewestFolds_128 k28 (sX6_fewestFolds_55 k28 n) x0 x2 x3 x4 x5 x6 x7 w
      else
      sX6_fewestFolds_128 k28 (sX6_fewestFolds_55 k28 n) x0 x2 x3 x4 x5 x6 x7 w
    else
    k28 x0 x2 x3 x4 (x5 + 1) w
def sX6_fewestFolds_28 : Nat → Nat → Int32 → Int32 → Int32 → Int32 → ab_W → Option (Int32 × ab_W)
  | 0, _, _, _, _, _, _ => none
  | n + 1, x0, x2, x3, x4, x5, w =>
    if x5 < x4 then
      if x5 < 128 then
        (ab_getR w 6 x0 4).bind fun v1 =>
        (ab_ald w v1 x5).bind fun v2 =>
        sX6_fewestFolds_55 (sX6_fewestFolds_28 n) 1000 x0 x2 x3 x4 x5 v2 0 w
      else
      sX6_fewestFolds_140 x0 x2 w
    else
    sX6_fewestFolds_140 x0 x2 w
def sX6_fewestFolds (x0 : Nat) (x1 : Int32) (x2 : Int32) (x3 : Int32) (w : ab_W) : Option (Int32 × ab_W) :=
  if ab_is w 6 x0 = true then
    (ab_getR w 6 x0 3).bind fun v1 =>
    (sJ7_fill_53178 v1 (-1) w).bind fun w2 =>
    (ab_getR w2 6 x0 3).bind fun v3 =>
    (ab_ast w2 v3 x1 0).bind fun w4 =>
    (ab_getR w4 6 x0 4).bind fun v5 =>
    (ab_ast w4 v5 0 x1).bind fun w6 =>
    sX6_fewestFolds_28 1000 x0 x2 x3 1 0 w6
  else none
def sX9_way_21 (x0 : Nat) (w : ab_W) : Option (Int32 × ab_W) :=
    ab_b2 (sX9_fail x0 1 w) fun v1 w2 =>
    some (v1, w2)
def sX9_way (x0 : Nat) (x1 : Int32) (x2 : Int32) (w : ab_W) : Option (Int32 × ab_W) :=
  if ab_is w 9 x0 = true then
    (ab_getR w 9 x0 3).bind fun v1 =>
    ab_b2 (sX0_has v1 x1 w) fun v2 w3 =>
    if v2 = 0 then
      sX9_way_21 x0 w3
    else
    ab_b2 (sX9_within x2 0 127 w3) fun v4 w5 =>
    if v4 = 0 then
      sX9_way_21 x0 w5
    else
    (ab_getR w5 9 x0 3).bind fun v6 =>
    (ab_getR w5 0 v6 0).bind fun v7 =>
    (ab_rald w5 1 v7 x1).bind fun v8 =>
    (ab_getR w5 9 x0 2).bind fun v9 =>
    (ab_getI w5 3 v8 3).bind fun v10 =>
    ab_b2 (sX3_stiff v8 w5) fun v11 w12 =>
    ab_b2 (sX6_fewestFolds v9 v10 x2 v11 w12) fun v13 w14 =>
    ab_b2 (sX9_orNone x0 v13 w14) fun v15 w16 =>
    some (v15, w16)
  else none
def sX6_fewestUnfolded_46 (k5 : Nat → Int32 → Int32 → Int32 → Int32 → ab_W → Option (Int32 × ab_W)) (x0 : Nat) (x1 : Int32) (x2 : Int32) (x3 : Int32) (x4 : Int32) (w : ab_W) : Option (Int32 × ab_W) :=
    k5 x0 x1 x2 x3 (x4 + 1) w
def sX6_fewestUnfolded_5 : Nat → Nat → Int32 → Int32 → Int32 → Int32 → ab_W → Option (Int32 × ab_W)
  | 0, _, _, _, _, _, _ => none
  | n + 1, x0, x1, x2, x3, x4, w =>
    if x1 < x4 then
      some (x3, w)
    else
    if (x4 &&& (x1 ^^^ (-1))) = 0 then
      (ab_getR w 6 x0 0).bind fun v1 =>
      (ab_ald w v1 (x1 ^^^ x4)).bind fun v2 =>
      if v2 < x2 then
        sX6_fewestUnfolded_46 (sX6_fewestUnfolded_5 n) x0 x1 x2 x3 x4 w
      else
      ab_b2 (sX6_isFewer x0 x4 x3 w) fun v3 w4 =>
      if v3 = 0 then
        sX6_fewestUnfolded_46 (sX6_fewestUnfolded_5 n) x0 x1 x2 x3 x4 w4
      else
      sX6_fewestUnfolded_46 (sX6_fewestUnfolded_5 n) x0 x1 x2 x4 x4 w4
    else
    sX6_fewestUnfolded_46 (sX6_fewestUnfolded_5 n) x0 x1 x2 x3 x4 w
def sX6_fewestUnfolded (x0 : Nat) (x1 : Int32) (x2 : Int32) (w : ab_W) : Option (Int32 × ab_W) :=
  if ab_is w 6 x0 = true then
    sX6_fewestUnfolded_5 1000 x0 x1 x2 (-1) 0 w
  else none
def sX9_open_21 (x0 : Nat) (w : ab_W) : Option (Int32 × ab_W) :=
    ab_b2 (sX9_fail x0 1 w) fun v1 w2 =>
    some (v1, w2)
def sX9_open (x0 : Nat) (x1 : Int32) (x2 : Int32) (w : ab_W) : Option (Int32 × ab_W) :=
  if ab_is w 9 x0 = true then
    (ab_getR w 9 x0 3).bind fun v1 =>
    ab_b2 (sX0_has v1 x1 w) fun v2 w3 =>
    if v2 = 0 then
      sX9_open_21 x0 w3
    else
    ab_b2 (sX9_within x2 1 8 w3) fun v4 w5 =>
    if v4 = 0 then
      sX9_open_21 x0 w5
    else
    (ab_getR w5 9 x0 2).bind fun v6 =>
    (ab_getR w5 9 x0 3).bind fun v7 =>
    (ab_getR w5 0 v7 0).bind fun v8 =>
    (ab_rald w5 1 v8 x1).bind fun v9 =>
    (ab_getI w5 3 v9 3).bind fun v10 =>
    ab_b2 (sX6_fewestUnfolded v6 v10 x2 w5) fun v11 w12 =>
    some (v11, w12)
  else none
def sX6_lookAlike (x0 : Nat) (x1 : Int32) (x2 : Int32) (w : ab_W) : Option (Int32 × ab_W) :=
  if ab_is w 6 x0 = true then
    if x1 = x2 then
      (ab_bool 0).bind fun y => some (y, w)
    else
    (ab_getR w 6 x0 0).bind fun v1 =>
    (ab_ald w v1 x1).bind fun v2 =>
    (ab_getR w 6 x0 0).bind fun v3 =>
    (ab_ald w v3 x2).bind fun v4 =>
    if v2 = v4 then
      (ab_getR w 6 x0 1).bind fun v5 =>
      (ab_ald w v5 x1).bind fun v6 =>
      (ab_getR w 6 x0 1).bind fun v7 =>
      (ab_ald w v7 x2).bind fun v8 =>
      if v6 = v8 then
        (ab_bool 1).bind fun y => some (y, w)
      else
      (ab_bool 0).bind fun y => some (y, w)
    else
    (ab_bool 0).bind fun y => some (y, w)
  else none
def sX9_alike_108 (k22 : Nat → Int32 → Int32 → Int32 → Int32 → ab_W → Option (Int32 × ab_W)) (k40 : Nat → Int32 → Int32 → Int32 → Int32 → Int32 → ab_W → Option (Int32 × ab_W)) (x0 : Nat) (x1 : Int32) (x2 : Int32) (x3 : Int32) (x4 : Int32) (x5 : Int32) (w : ab_W) : Option (Int32 × ab_W) :=
    k40 x0 x1 x2 x3 x4 (x5 + 1) w
def sX9_alike_107 (k22 : Nat → Int32 → Int32 → Int32 → Int32 → ab_W → Option (Int32 × ab_W)) (k40 : Nat → Int32 → Int32 → Int32 → Int32 → Int32 → ab_W → Option (Int32 × ab_W)) (x0 : Nat) (x1 : Int32) (x2 : Int32) (x4 : Int32) (x5 : Int32) (p0 : Int32) (w : ab_W) : Option (Int32 × ab_W) :=
    sX9_alike_108 k22 k40 x0 x1 x2 p0 x4 x5 w
def sX9_alike_40 (k22 : Nat → Int32 → Int32 → Int32 → Int32 → ab_W → Option (Int32 × ab_W)) : Nat → Nat → Int32 → Int32 → Int32 → Int32 → Int32 → ab_W → Option (Int32 × ab_W)
  | 0, _, _, _, _, _, _, _ => none
  | n + 1, x0, x1, x2, x3, x4, x5, w =>
    (ab_getR w 9 x0 3).bind fun v1 =>
    (ab_getI w 0 v1 4).bind fun v2 =>
    if x5 < v2 then
      (ab_getR w 9 x0 2).bind fun v3 =>
      (ab_getR w 9 x0 3).bind fun v4 =>
      (ab_getR w 0 v4 0).bind fun v5 =>
      (ab_rald w 1 v5 x4).bind fun v6 =>
      (ab_getI w 3 v6 3).bind fun v7 =>
      (ab_getR w 9 x0 3).bind fun v8 =>
      (ab_getR w 0 v8 0).bind fun v9 =>
      (ab_rald w 1 v9 x5).bind fun v10 =>
      (ab_getI w 3 v10 3).bind fun v11 =>
      ab_b2 (sX6_lookAlike v3 v7 v11 w) fun v12 w13 =>
      if v12 = 0 then
        sX9_alike_108 k22 (sX9_alike_40 k22 n) x0 x1 x2 x3 x4 x5 w13
      else
      if x3 < 0 then
        sX9_alike_107 k22 (sX9_alike_40 k22 n) x0 x1 (x2 + 1) x4 x5 ((10 * x4) + x5) w13
      else
      sX9_alike_107 k22 (sX9_alike_40 k22 n) x0 x1 (x2 + 1) x4 x5 x3 w13
    else
    k22 x0 x1 x2 x3 (x4 + 1) w
def sX9_alike_22 : Nat → Nat → Int32 → Int32 → Int32 → Int32 → ab_W → Option (Int32 × ab_W)
  | 0, _, _, _, _, _, _ => none
  | n + 1, x0, x1, x2, x3, x4, w =>
    (ab_getR w 9 x0 3).bind fun v1 =>
    (ab_getI w 0 v1 4).bind fun v2 =>
    if x4 < v2 then
      sX9_alike_40 (sX9_alike_22 n) 1000 x0 x1 x2 x3 x4 (x4 + 1) w
    else
    if x1 = 0 then
      some (x2, w)
    else
    ab_b2 (sX9_orNone x0 x3 w) fun v3 w4 =>
    some (v3, w4)
def sX9_alike (x0 : Nat) (x1 : Int32) (w : ab_W) : Option (Int32 × ab_W) :=
  if ab_is w 9 x0 = true then
    ab_b2 (sX9_within x1 0 1 w) fun v1 w2 =>
    if v1 = 0 then
      ab_b2 (sX9_fail x0 1 w2) fun v3 w4 =>
      some (v3, w4)
    else
    sX9_alike_22 1000 x0 x1 0 (-1) 0 w2
  else none
def sX7_farGone_2 : Nat → Nat → Int32 → Int32 → Int32 → ab_W → Option (Int32 × ab_W)
  | 0, _, _, _, _, _ => none
  | n + 1, x0, x1, x2, x3, w =>
    if x3 < x2 then
      (ab_getR w 7 x0 4).bind fun v1 =>
      (sX1_go v1 (x1 + x3) w).bind fun w2 =>
      sX7_farGone_2 n x0 x1 x2 (x3 + 1) w2
    else
    (ab_getR w 7 x0 4).bind fun v3 =>
    (ab_getI w 1 v3 0).bind fun v4 =>
    some (v4, w)
def sX7_farGone (x0 : Nat) (x1 : Int32) (x2 : Int32) (w : ab_W) : Option (Int32 × ab_W) :=
  if ab_is w 7 x0 = true then
    sX7_farGone_2 1000 x0 x1 x2 0 w
  else none
def sX7_farBehind (x0 : Nat) (x1 : Nat) (x2 : Nat) (x3 : Int32) (x4 : Int32) (x5 : Int32) (w : ab_W) : Option (Int32 × ab_W) :=
  if ab_is w 7 x0 = true then
    (ab_getR w 0 x1 0).bind fun v1 =>
    (ab_rald w 1 v1 x3).bind fun v2 =>
    (ab_getR w 7 x0 4).bind fun v3 =>
    (ab_getI w 3 v2 4).bind fun v4 =>
    (sX1_begin v3 v2 v4 w).bind fun w5 =>
    (ab_getI w5 3 v2 0).bind fun v6 =>
    (ab_getI w5 3 v2 3).bind fun v7 =>
    (sX7_pace x0 x1 x2 v6 v7 x4 w5).bind fun w8 =>
    (ab_getI w8 0 x1 5).bind fun v9 =>
    ab_b2 (sX7_farGone x0 v9 x5 w8) fun v10 w11 =>
    some (v10, w11)
  else none
def sX9_then_30 (x0 : Nat) (w : ab_W) : Option (Int32 × ab_W) :=
    ab_b2 (sX9_fail x0 1 w) fun v1 w2 =>
    some (v1, w2)
def sX9_then (x0 : Nat) (x1 : Int32) (x2 : Int32) (x3 : Int32) (w : ab_W) : Option (Int32 × ab_W) :=
  if ab_is w 9 x0 = true then
    ab_b2 (sX9_within x1 0 60 w) fun v1 w2 =>
    if v1 = 0 then
      sX9_then_30 x0 w2
    else
    (ab_getR w2 9 x0 3).bind fun v3 =>
    ab_b2 (sX0_has v3 x2 w2) fun v4 w5 =>
    if v4 = 0 then
      sX9_then_30 x0 w5
    else
    ab_b2 (sX9_within x3 0 1 w5) fun v6 w7 =>
    if v6 = 0 then
      sX9_then_30 x0 w7
    else
    if x3 = 0 then
      (ab_getR w7 9 x0 5).bind fun v8 =>
      (ab_getR w7 9 x0 3).bind fun v9 =>
      (ab_getR w7 9 x0 2).bind fun v10 =>
      (ab_getR w7 9 x0 3).bind fun v11 =>
      (ab_getI w7 0 v11 6).bind fun v12 =>
      ab_b2 (sX7_farBehind v8 v9 v10 x2 v12 x1 w7) fun v13 w14 =>
      some (v13, w14)
    else
    (ab_getR w7 9 x0 5).bind fun v15 =>
    (ab_getR w7 9 x0 3).bind fun v16 =>
    (ab_getR w7 9 x0 2).bind fun v17 =>
    (ab_getR w7 9 x0 3).bind fun v18 =>
    (ab_getR w7 0 v18 0).bind fun v19 =>
    (ab_rald w7 1 v19 x2).bind fun v20 =>
    (ab_getI w7 3 v20 4).bind fun v21 =>
    ab_b2 (sX7_debtBehind v15 v16 v17 x2 v21 x1 w7) fun v22 w23 =>
    some (v22, w23)
  else none
def sX7_daysToGone_2 : Nat → Nat → Int32 → Int32 → ab_W → Option (Int32 × ab_W)
  | 0, _, _, _, _ => none
  | n + 1, x0, x1, x2, w =>
    if 60 < x2 then
      some (x2, w)
    else
    (ab_getR w 7 x0 4).bind fun v1 =>
    (ab_getI w 1 v1 0).bind fun v2 =>
    if v2 < 100 then
      (ab_getR w 7 x0 4).bind fun v3 =>
      (sX1_go v3 (x1 + x2) w).bind fun w4 =>
      sX7_daysToGone_2 n x0 x1 (x2 + 1) w4
    else
    some (x2, w)
def sX7_daysToGone (x0 : Nat) (x1 : Int32) (w : ab_W) : Option (Int32 × ab_W) :=
  if ab_is w 7 x0 = true then
    sX7_daysToGone_2 1000 x0 x1 0 w
  else none
def sX7_findNextGone_81 (k8 : Nat → Nat → Nat → Int32 → ab_W → Option (Int32 × ab_W)) (x0 : Nat) (x1 : Nat) (x2 : Nat) (x3 : Int32) (w : ab_W) : Option (Int32 × ab_W) :=
    k8 x0 x1 x2 (x3 + 1) w
def sX7_findNextGone_8 : Nat → Nat → Nat → Nat → Int32 → ab_W → Option (Int32 × ab_W)
  | 0, _, _, _, _, _ => none
  | n + 1, x0, x1, x2, x3, w =>
    (ab_getI w 0 x1 4).bind fun v1 =>
    if x3 < v1 then
      (ab_getR w 0 x1 0).bind fun v2 =>
      (ab_rald w 1 v2 x3).bind fun v3 =>
      (ab_getI w 3 v3 4).bind fun v4 =>
      if v4 = 0 then
        sX7_findNextGone_81 (sX7_findNextGone_8 n) x0 x1 x2 x3 w
      else
      (ab_getI w 3 v3 5).bind fun v5 =>
      if v5 < 100 then
        (sX7_follow x0 x1 x2 v3 1 w).bind fun w6 =>
        (ab_getI w6 0 x1 5).bind fun v7 =>
        ab_b2 (sX7_daysToGone x0 v7 w6) fun v8 w9 =>
        (ab_getI w9 7 x0 0).bind fun v10 =>
        if v8 < v10 then
          (ab_putI w9 7 x0 0 v8).bind fun w11 =>
          (ab_putI w11 7 x0 1 x3).bind fun w12 =>
          sX7_findNextGone_81 (sX7_findNextGone_8 n) x0 x1 x2 x3 w12
        else
        sX7_findNextGone_81 (sX7_findNextGone_8 n) x0 x1 x2 x3 w9
      else
      sX7_findNextGone_81 (sX7_findNextGone_8 n) x0 x1 x2 x3 w
    else
    (ab_getI w 7 x0 0).bind fun v13 =>
    if 60 < v13 then
      (ab_bool 0).bind fun y => some (y, w)
    else
    (ab_bool 1).bind fun y => some (y, w)
def sX7_findNextGone (x0 : Nat) (x1 : Nat) (x2 : Nat) (w : ab_W) : Option (Int32 × ab_W) :=
  if ab_is w 7 x0 = true then
    (ab_putI w 7 x0 0 61).bind fun w1 =>
    sX7_findNextGone_8 1000 x0 x1 x2 0 w1
  else none
def sX9_first (x0 : Nat) (x1 : Int32) (w : ab_W) : Option (Int32 × ab_W) :=
  if ab_is w 9 x0 = true then
    ab_b2 (sX9_within x1 0 1 w) fun v1 w2 =>
    if v1 = 0 then
      ab_b2 (sX9_fail x0 1 w2) fun v3 w4 =>
      some (v3, w4)
    else
    (ab_getR w2 9 x0 5).bind fun v5 =>
    (ab_getR w2 9 x0 3).bind fun v6 =>
    (ab_getR w2 9 x0 2).bind fun v7 =>
    ab_b2 (sX7_findNextGone v5 v6 v7 w2) fun v8 w9 =>
    if v8 = 0 then
      ab_b2 (sX9_fail x0 2 w9) fun v10 w11 =>
      some (v10, w11)
    else
    if x1 = 0 then
      (ab_getR w9 9 x0 5).bind fun v12 =>
      (ab_getI w9 7 v12 0).bind fun v13 =>
      some (v13, w9)
    else
    (ab_getR w9 9 x0 5).bind fun v14 =>
    (ab_getI w9 7 v14 1).bind fun v15 =>
    some (v15, w9)
  else none
def sX7_findFarthest_114 (k23 : Nat → Nat → Nat → Int32 → Nat → Int32 → Int32 → ab_W → Option (Int32 × ab_W)) (x0 : Nat) (x1 : Nat) (x2 : Nat) (x4 : Int32) (x5 : Nat) (x6 : Int32) (x7 : Int32) (w : ab_W) : Option (Int32 × ab_W) :=
    k23 x0 x1 x2 x4 x5 x6 (x7 + 1) w
def sX7_findFarthest_23 : Nat → Nat → Nat → Nat → Int32 → Nat → Int32 → Int32 → ab_W → Option (Int32 × ab_W)
  | 0, _, _, _, _, _, _, _, _ => none
  | n + 1, x0, x1, x2, x4, x5, x6, x7, w =>
    if x7 < 128 then
      ab_b2 (sX6_live x2 x5 x7 w) fun v1 w2 =>
      if v1 = 0 then
        sX7_findFarthest_114 (sX7_findFarthest_23 n) x0 x1 x2 x4 x5 x6 x7 w2
      else
      (ab_getR w2 6 x2 1).bind fun v3 =>
      (ab_ald w2 v3 x7).bind fun v4 =>
      if x6 < v4 then
        sX7_findFarthest_114 (sX7_findFarthest_23 n) x0 x1 x2 x4 x5 x6 x7 w2
      else
      (ab_getR w2 7 x0 4).bind fun v5 =>
      (sX1_begin v5 x5 1 w2).bind fun w6 =>
      (ab_getI w6 3 x5 0).bind fun v7 =>
      (ab_getI w6 0 x1 6).bind fun v8 =>
      (sX7_pace x0 x1 x2 v7 x7 v8 w6).bind fun w9 =>
      (ab_getI w9 0 x1 5).bind fun v10 =>
      ab_b2 (sX7_farGone x0 v10 x4 w9) fun v11 w12 =>
      (ab_getI w12 7 x0 3).bind fun v13 =>
      if v13 < v11 then
        (ab_putI w12 7 x0 3 v11).bind fun w14 =>
        (ab_putI w14 7 x0 2 x7).bind fun w15 =>
        sX7_findFarthest_114 (sX7_findFarthest_23 n) x0 x1 x2 x4 x5 x6 x7 w15
      else
      sX7_findFarthest_114 (sX7_findFarthest_23 n) x0 x1 x2 x4 x5 x6 x7 w12
    else
    (ab_getI w 7 x0 3).bind fun v16 =>
    if v16 < 0 then
      (ab_bool 0).bind fun y => some (y, w)
    else
    (ab_bool 1).bind fun y => some (y, w)
def sX7_findFarthest (x0 : Nat) (x1 : Nat) (x2 : Nat) (x3 : Int32) (x4 : Int32) (w : ab_W) : Option (Int32 × ab_W) :=
  if ab_is w 7 x0 = true then
    (ab_getR w 0 x1 0).bind fun v1 =>
    (ab_rald w 1 v1 x3).bind fun v2 =>
    ab_b2 (sX3_stiff v2 w) fun v3 w4 =>
    (ab_putI w4 7 x0 3 (-1)).bind fun w5 =>
    sX7_findFarthest_23 1000 x0 x1 x2 x4 v2 v3 0 w5
  else none
def sX9_best_30 (x0 : Nat) (w : ab_W) : Option (Int32 × ab_W) :=
    ab_b2 (sX9_fail x0 1 w) fun v1 w2 =>
    some (v1, w2)
def sX9_best (x0 : Nat) (x1 : Int32) (x2 : Int32) (x3 : Int32) (w : ab_W) : Option (Int32 × ab_W) :=
  if ab_is w 9 x0 = true then
    (ab_getR w 9 x0 3).bind fun v1 =>
    ab_b2 (sX0_has v1 x1 w) fun v2 w3 =>
    if v2 = 0 then
      sX9_best_30 x0 w3
    else
    ab_b2 (sX9_within x2 0 60 w3) fun v4 w5 =>
    if v4 = 0 then
      sX9_best_30 x0 w5
    else
    ab_b2 (sX9_within x3 0 1 w5) fun v6 w7 =>
    if v6 = 0 then
      sX9_best_30 x0 w7
    else
    (ab_getR w7 9 x0 5).bind fun v8 =>
    (ab_getR w7 9 x0 3).bind fun v9 =>
    (ab_getR w7 9 x0 2).bind fun v10 =>
    ab_b2 (sX7_findFarthest v8 v9 v10 x1 x2 w7) fun v11 w12 =>
    if v11 = 0 then
      ab_b2 (sX9_fail x0 2 w12) fun v13 w14 =>
      some (v13, w14)
    else
    if x3 = 0 then
      (ab_getR w12 9 x0 5).bind fun v15 =>
      (ab_getI w12 7 v15 2).bind fun v16 =>
      some (v16, w12)
    else
    (ab_getR w12 9 x0 5).bind fun v17 =>
    (ab_getI w12 7 v17 3).bind fun v18 =>
    some (v18, w12)
  else none
def sX5_isMissing (x0 : Nat) (w : ab_W) : Option (Int32 × ab_W) :=
  if ab_is w 5 x0 = true then
    (ab_getI w 5 x0 1).bind fun v1 =>
    if v1 = 0 then
      (ab_bool 1).bind fun y => some (y, w)
    else
    (ab_bool 0).bind fun y => some (y, w)
  else none
def sX7_fittingWinds_86 (k6 : Nat → Nat → Nat → Nat → Int32 → Int32 → Int32 → ab_W → Option (Int32 × ab_W)) (x0 : Nat) (x1 : Nat) (x2 : Nat) (x3 : Nat) (x4 : Int32) (x5 : Int32) (x6 : Int32) (w : ab_W) : Option (Int32 × ab_W) :=
    k6 x0 x1 x2 x3 x4 x5 (x6 + 1) w
def sX7_fittingWinds_72 (k6 : Nat → Nat → Nat → Nat → Int32 → Int32 → Int32 → ab_W → Option (Int32 × ab_W)) (x0 : Nat) (x1 : Nat) (x2 : Nat) (x3 : Nat) (x4 : Int32) (x5 : Int32) (x6 : Int32) (x7 : Int32) (w : ab_W) : Option (Int32 × ab_W) :=
    if x7 = 0 then
      sX7_fittingWinds_86 k6 x0 x1 x2 x3 x4 x5 x6 w
    else
    sX7_fittingWinds_86 k6 x0 x1 x2 x3 x4 (x5 ||| (1 <<< (x6 &&& 31))) x6 w
def sX7_fittingWinds_64 (k6 : Nat → Nat → Nat → Nat → Int32 → Int32 → Int32 → ab_W → Option (Int32 × ab_W)) (k19 : Nat → Nat → Nat → Nat → Int32 → Int32 → Int32 → Int32 → Int32 → ab_W → Option (Int32 × ab_W)) (x0 : Nat) (x1 : Nat) (x2 : Nat) (x3 : Nat) (x4 : Int32) (x5 : Int32) (x6 : Int32) (x8 : Int32) (p0 : Int32) (w : ab_W) : Option (Int32 × ab_W) :=
    k19 x0 x1 x2 x3 x4 x5 x6 p0 (x8 + 1) w
def sX7_fittingWinds_19 (k6 : Nat → Nat → Nat → Nat → Int32 → Int32 → Int32 → ab_W → Option (Int32 × ab_W)) : Nat → Nat → Nat → Nat → Nat → Int32 → Int32 → Int32 → Int32 → Int32 → ab_W → Option (Int32 × ab_W)
  | 0, _, _, _, _, _, _, _, _, _, _ => none
  | n + 1, x0, x1, x2, x3, x4, x5, x6, x7, x8, w =>
    if x7 = 0 then
      sX7_fittingWinds_72 k6 x0 x1 x2 x3 x4 x5 x6 x7 w
    else
    (ab_getI w 0 x1 4).bind fun v1 =>
    if x8 < v1 then
      (ab_len w x3).bind fun v2 =>
      if x8 < v2 then
        (ab_ald w x3 x8).bind fun v3 =>
        ab_b2 (sX7_farBehind x0 x1 x2 x8 x6 x4 w) fun v4 w5 =>
        if v3 = v4 then
          sX7_fittingWinds_64 k6 (sX7_fittingWinds_19 k6 n) x0 x1 x2 x3 x4 x5 x6 x8 1 w5
        else
        sX7_fittingWinds_64 k6 (sX7_fittingWinds_19 k6 n) x0 x1 x2 x3 x4 x5 x6 x8 0 w5
      else
      sX7_fittingWinds_72 k6 x0 x1 x2 x3 x4 x5 x6 x7 w
    else
    sX7_fittingWinds_72 k6 x0 x1 x2 x3 x4 x5 x6 x7 w
def sX7_fittingWinds_6 : Nat → Nat → Nat → Nat → Nat → Int32 → Int32 → Int32 → ab_W → Option (Int32 × ab_W)
  | 0, _, _, _, _, _, _, _, _ => none
  | n + 1, x0, x1, x2, x3, x4, x5, x6, w =>
    if 9 < x6 then
      some (x5, w)
    else
    sX7_fittingWinds_19 (sX7_fittingWinds_6 n) 1000 x0 x1 x2 x3 x4 x5 x6 1 0 w
def sX7_fittingWinds (x0 : Nat) (x1 : Nat) (x2 : Nat) (x3 : Nat) (x4 : Int32) (w : ab_W) : Option (Int32 × ab_W) :=
  if ab_is w 7 x0 = true then
    sX7_fittingWinds_6 1000 x0 x1 x2 x3 x4 0 0 w
  else none
def sX9_fits_18 (x0 : Nat) (w : ab_W) : Option (Int32 × ab_W) :=
    ab_b2 (sX9_fail x0 1 w) fun v1 w2 =>
    some (v1, w2)
def sX9_fits_75 (x0 : Nat) (w : ab_W) : Option (Int32 × ab_W) :=
    ab_b2 (sX9_fail x0 2 w) fun v1 w2 =>
    some (v1, w2)
def sX9_fits (x0 : Nat) (x1 : Int32) (x2 : Int32) (w : ab_W) : Option (Int32 × ab_W) :=
  if ab_is w 9 x0 = true then
    ab_b2 (sX9_within x1 0 3 w) fun v1 w2 =>
    if v1 = 0 then
      sX9_fits_18 x0 w2
    else
    ab_b2 (sX9_within x2 0 1 w2) fun v3 w4 =>
    if v3 = 0 then
      sX9_fits_18 x0 w4
    else
    (ab_getR w4 9 x0 1).bind fun v5 =>
    (ab_rald w4 3 v5 x1).bind fun v6 =>
    ab_b2 (sX5_isMissing v6 w4) fun v7 w8 =>
    if v7 = 0 then
      (ab_getI w8 5 v6 2).bind fun v9 =>
      (ab_getR w8 9 x0 3).bind fun v10 =>
      (ab_getI w8 0 v10 4).bind fun v11 =>
      if v9 = (v11 + 1) then
        (ab_getR w8 5 v6 0).bind fun v12 =>
        (ab_getR w8 9 x0 3).bind fun v13 =>
        (ab_getI w8 0 v13 4).bind fun v14 =>
        (ab_ald w8 v12 v14).bind fun v15 =>
        ab_b2 (sX9_within v15 0 60 w8) fun v16 w17 =>
        if v16 = 0 then
          sX9_fits_75 x0 w17
        else
        (ab_getR w17 9 x0 5).bind fun v18 =>
        (ab_getR w17 9 x0 3).bind fun v19 =>
        (ab_getR w17 9 x0 2).bind fun v20 =>
        (ab_getR w17 5 v6 0).bind fun v21 =>
        (ab_getR w17 5 v6 0).bind fun v22 =>
        (ab_getR w17 9 x0 3).bind fun v23 =>
        (ab_getI w17 0 v23 4).bind fun v24 =>
        (ab_ald w17 v22 v24).bind fun v25 =>
        ab_b2 (sX7_fittingWinds v18 v19 v20 v21 v25 w17) fun v26 w27 =>
        if x2 = 0 then
          some (v26, w27)
        else
        ab_b2 (sJ6_bitCount_0f7a4 v26 w27) fun v28 w29 =>
        some (v28, w29)
      else
      sX9_fits_75 x0 w8
    else
    sX9_fits_75 x0 w8
  else none
def sX7_debtOfAllBehind_6 : Nat → Nat → Nat → Nat → Int32 → Int32 → Int32 → ab_W → Option (Int32 × ab_W)
  | 0, _, _, _, _, _, _, _ => none
  | n + 1, x0, x1, x2, x3, x4, x5, w =>
    (ab_getI w 0 x1 4).bind fun v1 =>
    if x5 < v1 then
      (ab_getR w 0 x1 0).bind fun v2 =>
      (ab_rald w 1 v2 x5).bind fun v3 =>
      (ab_getI w 3 v3 4).bind fun v4 =>
      ab_b2 (sX7_debtBehind x0 x1 x2 x5 v4 x3 w) fun v5 w6 =>
      sX7_debtOfAllBehind_6 n x0 x1 x2 x3 (x4 + v5) (x5 + 1) w6
    else
    some (x4, w)
def sX7_debtOfAllBehind (x0 : Nat) (x1 : Nat) (x2 : Nat) (x3 : Int32) (w : ab_W) : Option (Int32 × ab_W) :=
  if ab_is w 7 x0 = true then
    sX7_debtOfAllBehind_6 1000 x0 x1 x2 x3 0 0 w
  else none
def sX9_owed (x0 : Nat) (x1 : Int32) (w : ab_W) : Option (Int32 × ab_W) :=
  if ab_is w 9 x0 = true then
    ab_b2 (sX9_within x1 0 60 w) fun v1 w2 =>
    if v1 = 0 then
      ab_b2 (sX9_fail x0 1 w2) fun v3 w4 =>
      some (v3, w4)
    else
    (ab_getR w2 9 x0 5).bind fun v5 =>
    (ab_getR w2 9 x0 3).bind fun v6 =>
    (ab_getR w2 9 x0 2).bind fun v7 =>
    ab_b2 (sX7_debtOfAllBehind v5 v6 v7 x1 w2) fun v8 w9 =>
    some (v8, w9)
  else none
def sX7_bestDebtor_76 (k9 : Nat → Nat → Nat → Int32 → Int32 → Int32 → Int32 → ab_W → Option (Int32 × ab_W)) (x0 : Nat) (x1 : Nat) (x2 : Nat) (x3 : Int32) (x4 : Int32) (x5 : Int32) (x6 : Int32) (w : ab_W) : Option (Int32 × ab_W) :=
    k9 x0 x1 x2 x3 x4 x5 (x6 + 1) w
def sX7_bestDebtor_61 (k9 : Nat → Nat → Nat → Int32 → Int32 → Int32 → Int32 → ab_W → Option (Int32 × ab_W)) (x0 : Nat) (x1 : Nat) (x2 : Nat) (x3 : Int32) (x4 : Int32) (x5 : Int32) (x6 : Int32) (x8 : Int32) (w : ab_W) : Option (Int32 × ab_W) :=
    if x5 < x8 then
      sX7_bestDebtor_76 k9 x0 x1 x2 x3 x6 x8 x6 w
    else
    sX7_bestDebtor_76 k9 x0 x1 x2 x3 x4 x5 x6 w
def sX7_bestDebtor_9 : Nat → Nat → Nat → Nat → Int32 → Int32 → Int32 → Int32 → ab_W → Option (Int32 × ab_W)
  | 0, _, _, _, _, _, _, _, _ => none
  | n + 1, x0, x1, x2, x3, x4, x5, x6, w =>
    (ab_getI w 0 x1 4).bind fun v1 =>
    if x6 < v1 then
      (ab_getR w 0 x1 0).bind fun v2 =>
      (ab_rald w 1 v2 x6).bind fun v3 =>
      (ab_getI w 3 v3 4).bind fun v4 =>
      if v4 = 0 then
        (ab_getR w 0 x1 0).bind fun v5 =>
        (ab_rald w 1 v5 x6).bind fun v6 =>
        (ab_getI w 3 v6 2).bind fun v7 =>
        ab_b2 (sX7_debtBehind x0 x1 x2 x6 1 x3 w) fun v8 w9 =>
        sX7_bestDebtor_61 (sX7_bestDebtor_9 n) x0 x1 x2 x3 x4 x5 x6 (v7 - v8) w9
      else
      sX7_bestDebtor_61 (sX7_bestDebtor_9 n) x0 x1 x2 x3 x4 x5 x6 0 w
    else
    some (x4, w)
def sX7_bestDebtor (x0 : Nat) (x1 : Nat) (x2 : Nat) (x3 : Int32) (w : ab_W) : Option (Int32 × ab_W) :=
  if ab_is w 7 x0 = true then
    sX7_bestDebtor_9 1000 x0 x1 x2 x3 (-1) (-1) 0 w
  else none
def sX9_debtor (x0 : Nat) (x1 : Int32) (w : ab_W) : Option (Int32 × ab_W) :=
  if ab_is w 9 x0 = true then
    ab_b2 (sX9_within x1 0 30 w) fun v1 w2 =>
    if v1 = 0 then
      ab_b2 (sX9_fail x0 1 w2) fun v3 w4 =>
      some (v3, w4)
    else
    (ab_getR w2 9 x0 5).bind fun v5 =>
    (ab_getR w2 9 x0 3).bind fun v6 =>
    (ab_getR w2 9 x0 2).bind fun v7 =>
    ab_b2 (sX7_bestDebtor v5 v6 v7 x1 w2) fun v8 w9 =>
    ab_b2 (sX9_orNone x0 v8 w9) fun v10 w11 =>
    some (v10, w11)
  else none
def sX6_foldableSets_32 (k10 : Nat → Int32 → Int32 → Int32 → ab_W → Option (Int32 × ab_W)) (x0 : Nat) (x2 : Int32) (x3 : Int32) (x4 : Int32) (w : ab_W) : Option (Int32 × ab_W) :=
    k10 x0 x2 x3 (x4 + 1) w
def sX6_foldableSets_10 : Nat → Nat → Int32 → Int32 → Int32 → ab_W → Option (Int32 × ab_W)
  | 0, _, _, _, _, _ => none
  | n + 1, x0, x2, x3, x4, w =>
    if x4 < 128 then
      (ab_getR w 6 x0 1).bind fun v1 =>
      (ab_ald w v1 x4).bind fun v2 =>
      if x2 < v2 then
        sX6_foldableSets_32 (sX6_foldableSets_10 n) x0 x2 x3 x4 w
      else
      sX6_foldableSets_32 (sX6_foldableSets_10 n) x0 x2 (x3 + 1) x4 w
    else
    some (x3, w)
def sX6_foldableSets (x0 : Nat) (x1 : Nat) (w : ab_W) : Option (Int32 × ab_W) :=
  if ab_is w 6 x0 = true then
    ab_b2 (sX3_stiff x1 w) fun v1 w2 =>
    sX6_foldableSets_10 1000 x0 v1 0 0 w2
  else none
def sX6_livingSets_42 (k10 : Nat → Nat → Int32 → Int32 → Int32 → ab_W → Option (Int32 × ab_W)) (x0 : Nat) (x1 : Nat) (x2 : Int32) (x3 : Int32) (x4 : Int32) (w : ab_W) : Option (Int32 × ab_W) :=
    k10 x0 x1 x2 x3 (x4 + 1) w
def sX6_livingSets_10 : Nat → Nat → Nat → Int32 → Int32 → Int32 → ab_W → Option (Int32 × ab_W)
  | 0, _, _, _, _, _, _ => none
  | n + 1, x0, x1, x2, x3, x4, w =>
    if x4 < 128 then
      (ab_getR w 6 x0 1).bind fun v1 =>
      (ab_ald w v1 x4).bind fun v2 =>
      if x2 < v2 then
        sX6_livingSets_42 (sX6_livingSets_10 n) x0 x1 x2 x3 x4 w
      else
      ab_b2 (sX6_live x0 x1 x4 w) fun v3 w4 =>
      if v3 = 0 then
        sX6_livingSets_42 (sX6_livingSets_10 n) x0 x1 x2 x3 x4 w4
      else
      sX6_livingSets_42 (sX6_livingSets_10 n) x0 x1 x2 (x3 + 1) x4 w4
    else
    some (x3, w)
def sX6_livingSets (x0 : Nat) (x1 : Nat) (w : ab_W) : Option (Int32 × ab_W) :=
  if ab_is w 6 x0 = true then
    ab_b2 (sX3_stiff x1 w) fun v1 w2 =>
    sX6_livingSets_10 1000 x0 x1 v1 0 0 w2
  else none
def sX9_commonDivisor_7 : Nat → Int32 → Int32 → Int32 → ab_W → Option (Int32 × ab_W)
  | 0, _, _, _, _ => none
  | n + 1, x2, x3, x4, w =>
    if x4 < 128 then
      if x3 = 0 then
        some (x2, w)
      else
      (ab_rem x2 x3).bind fun v1 =>
      sX9_commonDivisor_7 n x3 v1 (x4 + 1) w
    else
    some (x2, w)
def sX9_commonDivisor (x0 : Int32) (x1 : Int32) (w : ab_W) : Option (Int32 × ab_W) :=
    sX9_commonDivisor_7 1000 x0 x1 0 w
def sX9_odds_20 (x0 : Nat) (w : ab_W) : Option (Int32 × ab_W) :=
    ab_b2 (sX9_fail x0 1 w) fun v1 w2 =>
    some (v1, w2)
def sX9_odds (x0 : Nat) (x1 : Int32) (x2 : Int32) (w : ab_W) : Option (Int32 × ab_W) :=
  if ab_is w 9 x0 = true then
    (ab_getR w 9 x0 3).bind fun v1 =>
    ab_b2 (sX0_has v1 x1 w) fun v2 w3 =>
    if v2 = 0 then
      sX9_odds_20 x0 w3
    else
    ab_b2 (sX9_within x2 0 1 w3) fun v4 w5 =>
    if v4 = 0 then
      sX9_odds_20 x0 w5
    else
    (ab_getR w5 9 x0 3).bind fun v6 =>
    (ab_getR w5 0 v6 0).bind fun v7 =>
    (ab_rald w5 1 v7 x1).bind fun v8 =>
    (ab_getR w5 9 x0 2).bind fun v9 =>
    ab_b2 (sX6_livingSets v9 v8 w5) fun v10 w11 =>
    (ab_getR w11 9 x0 2).bind fun v12 =>
    ab_b2 (sX6_foldableSets v12 v8 w11) fun v13 w14 =>
    ab_b2 (sX9_commonDivisor v10 v13 w14) fun v15 w16 =>
    if v15 = 0 then
      some (x2, w16)
    else
    if x2 = 0 then
      (ab_div v10 v15).bind fun v17 =>
      some (v17, w16)
    else
    (ab_div v13 v15).bind fun v18 =>
    some (v18, w16)
  else none
def sX9_seed (x0 : Nat) (x1 : Int32) (w : ab_W) : Option (Int32 × ab_W) :=
  if ab_is w 9 x0 = true then
    (ab_getR w 9 x0 3).bind fun v1 =>
    (ab_getI w 0 v1 9).bind fun v2 =>
    (ab_getR w 9 x0 3).bind fun v3 =>
    (ab_putI w 0 v3 9 x1).bind fun w4 =>
    some (v2, w4)
  else none
def sX8_bodyOf_51 (x1 : Int32) (w : ab_W) : Option (Int32 × ab_W) :=
    (ab_rd 28 ab_bodies x1).bind fun v1 =>
    some (v1, w)
def sX8_bodyOf_4 : Nat → Int32 → Int32 → Int32 → ab_W → Option (Int32 × ab_W)
  | 0, _, _, _, _ => none
  | n + 1, x1, x2, x3, w =>
    if x3 < 7 then
      if 0 < x2 then
        if x2 < 7 then
          (ab_rd 28 ab_bodies ((x2 * 4) + x1)).bind fun v1 =>
          if v1 = 0 then
            (ab_rd 7 ab_above x2).bind fun v2 =>
            sX8_bodyOf_4 n x1 v2 (x3 + 1) w
          else
          some (v1, w)
        else
        sX8_bodyOf_51 x1 w
      else
      sX8_bodyOf_51 x1 w
    else
    sX8_bodyOf_51 x1 w
def sX8_bodyOf (x0 : Int32) (x1 : Int32) (w : ab_W) : Option (Int32 × ab_W) :=
    sX8_bodyOf_4 1000 x1 x0 0 w
def sX8_say_46 (f_X8_perform : Nat → Int32 → Int32 → Int32 → ab_W → Option (Int32 × ab_W)) (x0 : Nat) (x3 : Int32) (x4 : Int32) (x5 : Int32) (w : ab_W) : Option (Int32 × ab_W) :=
    ab_b2 (f_X8_perform x0 x5 x3 (x4 + 1) w) fun v1 w2 =>
    some (v1, w2)
def bX8_say (f_X8_perform : Nat → Int32 → Int32 → Int32 → ab_W → Option (Int32 × ab_W)) (x0 : Nat) (x1 : Int32) (x2 : Int32) (x3 : Int32) (x4 : Int32) (w : ab_W) : Option (Int32 × ab_W) :=
  if ab_is w 8 x0 = true then
    if x4 < 40 then
      ab_b2 (sX8_bodyOf x1 x2 w) fun v1 w2 =>
      (ab_getI w2 8 x0 1).bind fun v3 =>
      if v3 < 40 then
        (ab_getR w2 8 x0 0).bind fun v4 =>
        (ab_getI w2 8 x0 1).bind fun v5 =>
        (ab_ast w2 v4 v5 v1).bind fun w6 =>
        (ab_getI w6 8 x0 1).bind fun v7 =>
        (ab_putI w6 8 x0 1 (v7 + 1)).bind fun w8 =>
        sX8_say_46 f_X8_perform x0 x3 x4 v1 w8
      else
      sX8_say_46 f_X8_perform x0 x3 x4 v1 w2
    else
    some (0, w)
  else none
def bX8_perform (f_X8_say : Nat → Int32 → Int32 → Int32 → Int32 → ab_W → Option (Int32 × ab_W)) (x0 : Nat) (x1 : Int32) (x2 : Int32) (x3 : Int32) (w : ab_W) : Option (Int32 × ab_W) :=
  if ab_is w 8 x0 = true then
    if x1 = 10 then
      (ab_getI w 8 x0 4).bind fun v1 =>
      some ((x2 + v1), w)
    else
    if x1 = 11 then
      (ab_getI w 8 x0 2).bind fun v2 =>
      ab_b2 (f_X8_say x0 v2 0 x2 x3 w) fun v3 w4 =>
      some ((v3 * 2), w4)
    else
    if x1 = 12 then
      (ab_getI w 8 x0 3).bind fun v5 =>
      some ((x2 - v5), w)
    else
    if x1 = 13 then
      (ab_getI w 8 x0 2).bind fun v6 =>
      ab_b2 (f_X8_say x0 v6 1 x2 x3 w) fun v7 w8 =>
      (ab_getI w8 8 x0 2).bind fun v9 =>
      ab_b2 (f_X8_say x0 v9 2 x2 x3 w8) fun v10 w11 =>
      some ((v7 ^^^ v10), w11)
    else
    if x1 = 20 then
      ab_b2 (f_X8_say x0 0 0 x2 x3 w) fun v12 w13 =>
      some ((v12 * 3), w13)
    else
    if x1 = 30 then
      ab_b2 (f_X8_say x0 0 1 x2 x3 w) fun v14 w15 =>
      (ab_getI w15 8 x0 2).bind fun v16 =>
      ab_b2 (f_X8_say x0 v16 2 1 x3 w15) fun v17 w18 =>
      some ((v14 - v17), w18)
    else
    if x1 = 40 then
      ab_b2 (f_X8_say x0 0 2 x2 x3 w) fun v19 w20 =>
      some ((-v19), w20)
    else
    if x1 = 50 then
      ab_b2 (f_X8_say x0 1 3 x2 x3 w) fun v21 w22 =>
      (ab_getI w22 8 x0 2).bind fun v23 =>
      ab_b2 (f_X8_say x0 v23 0 2 x3 w22) fun v24 w25 =>
      some ((v21 - v24), w25)
    else
    if x1 = 60 then
      ab_b2 (f_X8_say x0 2 1 (x2 + 1) x3 w) fun v26 w27 =>
      some (v26, w27)
    else
    if x1 = 70 then
      ab_b2 (f_X8_say x0 3 2 x2 x3 w) fun v28 w29 =>
      (ab_getI w29 8 x0 4).bind fun v30 =>
      some ((v28 ^^^ v30), w29)
    else
    if x1 = 71 then
      (ab_getI w 8 x0 2).bind fun v31 =>
      ab_b2 (f_X8_say x0 v31 1 x2 x3 w) fun v32 w33 =>
      ab_b2 (f_X8_say x0 3 3 x2 x3 w33) fun v34 w35 =>
      some ((v32 - v34), w35)
    else
    some (0, w)
  else none
def gpX8_say : Nat → (Nat → Int32 → Int32 → Int32 → Int32 → ab_W → Option (Int32 × ab_W)) × (Nat → Int32 → Int32 → Int32 → ab_W → Option (Int32 × ab_W))
  | 0 => (fun _ _ _ _ _ _ => none, fun _ _ _ _ _ => none)
  | n + 1 => (bX8_say ((gpX8_say n).2), bX8_perform ((gpX8_say n).1))
def sX8_say (n : Nat) : Nat → Int32 → Int32 → Int32 → Int32 → ab_W → Option (Int32 × ab_W) := (gpX8_say n).1
def sX8_perform (n : Nat) : Nat → Int32 → Int32 → Int32 → ab_W → Option (Int32 × ab_W) := (gpX8_say n).2
theorem sX8_say_s (n : Nat) : sX8_say (n + 1) = bX8_say (sX8_perform n) := rfl
theorem sX8_perform_s (n : Nat) : sX8_perform (n + 1) = bX8_perform (sX8_say n) := rfl
def sX8_speak (x0 : Nat) (x1 : Nat) (x2 : Int32) (x3 : Int32) (x4 : Int32) (w : ab_W) : Option (Int32 × ab_W) :=
  if ab_is w 8 x0 = true then
    (ab_putI w 8 x0 1 0).bind fun w1 =>
    (ab_getI w1 3 x1 0).bind fun v2 =>
    (ab_putI w1 8 x0 2 v2).bind fun w3 =>
    (ab_getI w3 3 x1 1).bind fun v4 =>
    (ab_putI w3 8 x0 3 v4).bind fun w5 =>
    (ab_putI w5 8 x0 4 x2).bind fun w6 =>
    (ab_getI w6 8 x0 2).bind fun v7 =>
    ab_b2 (sX8_say 100 x0 v7 x3 x4 0 w6) fun v8 w9 =>
    some (v8, w9)
  else none
def sX9_voice_20 (x0 : Nat) (w : ab_W) : Option (Int32 × ab_W) :=
    ab_b2 (sX9_fail x0 1 w) fun v1 w2 =>
    some (v1, w2)
def sX9_voice (x0 : Nat) (x1 : Int32) (x2 : Int32) (x3 : Int32) (w : ab_W) : Option (Int32 × ab_W) :=
  if ab_is w 9 x0 = true then
    (ab_getR w 9 x0 3).bind fun v1 =>
    ab_b2 (sX0_has v1 x1 w) fun v2 w3 =>
    if v2 = 0 then
      sX9_voice_20 x0 w3
    else
    ab_b2 (sX9_within x2 0 3 w3) fun v4 w5 =>
    if v4 = 0 then
      sX9_voice_20 x0 w5
    else
    (ab_getR w5 9 x0 7).bind fun v6 =>
    (ab_getR w5 9 x0 3).bind fun v7 =>
    (ab_getR w5 0 v7 0).bind fun v8 =>
    (ab_rald w5 1 v8 x1).bind fun v9 =>
    ab_b2 (sX8_speak v6 v9 x1 x2 x3 w5) fun v10 w11 =>
    some (v10, w11)
  else none
def sX9_trace (x0 : Nat) (x1 : Int32) (w : ab_W) : Option (Int32 × ab_W) :=
  if ab_is w 9 x0 = true then
    (ab_getR w 9 x0 7).bind fun v1 =>
    (ab_getI w 8 v1 1).bind fun v2 =>
    ab_b2 (sX9_within x1 0 (v2 - 1) w) fun v3 w4 =>
    if v3 = 0 then
      ab_b2 (sX9_fail x0 2 w4) fun v5 w6 =>
      some (v5, w6)
    else
    (ab_getR w4 9 x0 7).bind fun v7 =>
    (ab_getR w4 8 v7 0).bind fun v8 =>
    (ab_ald w4 v8 x1).bind fun v9 =>
    some (v9, w4)
  else none
def sX5_begin (x0 : Nat) (x1 : Int32) (x2 : Int32) (w : ab_W) : Option (ab_W) :=
  if ab_is w 5 x0 = true then
    (ab_putI w 5 x0 1 x1).bind fun w1 =>
    (ab_putI w1 5 x0 2 x2).bind fun w2 =>
    (ab_getR w2 5 x0 0).bind fun v3 =>
    (sJ7_fill_53178 v3 0 w2).bind fun w4 =>
    some w4
  else none
def sX9_sheet_31 (x0 : Nat) (w : ab_W) : Option (Int32 × ab_W) :=
    ab_b2 (sX9_fail x0 1 w) fun v1 w2 =>
    some (v1, w2)
def sX9_sheet_83 (p0 : Nat) (p1 : Int32) (p2 : Int32) (w : ab_W) : Option (Int32 × ab_W) :=
    (sX5_begin p0 p1 p2 w).bind fun w1 =>
    some (1, w1)
def sX9_sheet_67 (x0 : Nat) (x1 : Int32) (x2 : Int32) (x3 : Int32) (w : ab_W) : Option (Int32 × ab_W) :=
    (ab_getR w 9 x0 1).bind fun v1 =>
    (ab_rald w 3 v1 x1).bind fun v2 =>
    if x2 = 0 then
      sX9_sheet_83 v2 x2 0 w
    else
    sX9_sheet_83 v2 x2 x3 w
def sX9_sheet_51 (x0 : Nat) (x1 : Int32) (x2 : Int32) (x3 : Int32) (w : ab_W) : Option (Int32 × ab_W) :=
    if x2 = 0 then
      sX9_sheet_67 x0 x1 x2 x3 w
    else
    if 40 < x3 then
      ab_b2 (sX9_fail x0 1 w) fun v1 w2 =>
      some (v1, w2)
    else
    sX9_sheet_67 x0 x1 x2 x3 w
def sX9_sheet_37 (x0 : Nat) (x1 : Int32) (x2 : Int32) (x3 : Int32) (w : ab_W) : Option (Int32 × ab_W) :=
    if x2 = 0 then
      sX9_sheet_51 x0 x1 x2 x3 w
    else
    if x3 < 0 then
      ab_b2 (sX9_fail x0 3 w) fun v1 w2 =>
      some (v1, w2)
    else
    sX9_sheet_51 x0 x1 x2 x3 w
def sX9_sheet (x0 : Nat) (x1 : Int32) (x2 : Int32) (x3 : Int32) (w : ab_W) : Option (Int32 × ab_W) :=
  if ab_is w 9 x0 = true then
    ab_b2 (sX9_within x1 0 3 w) fun v1 w2 =>
    if v1 = 0 then
      sX9_sheet_31 x0 w2
    else
    if x2 = 0 then
      sX9_sheet_37 x0 x1 x2 x3 w2
    else
    if x2 = 8 then
      sX9_sheet_37 x0 x1 x2 x3 w2
    else
    if x2 = 16 then
      sX9_sheet_37 x0 x1 x2 x3 w2
    else
    if x2 = 32 then
      sX9_sheet_37 x0 x1 x2 x3 w2
    else
    sX9_sheet_31 x0 w2
  else none
def sX5_lowestBits (x0 : Nat) (x1 : Int32) (w : ab_W) : Option (Int32 × ab_W) :=
  if ab_is w 5 x0 = true then
    (ab_getI w 5 x0 1).bind fun v1 =>
    if v1 = 8 then
      some ((x1 : Int32).toInt8.toInt32, w)
    else
    (ab_getI w 5 x0 1).bind fun v2 =>
    if v2 = 16 then
      some ((x1 : Int32).toInt16.toInt32, w)
    else
    some (x1, w)
  else none
def sX9_put (x0 : Nat) (x1 : Int32) (x2 : Int32) (x3 : Int32) (w : ab_W) : Option (Int32 × ab_W) :=
  if ab_is w 9 x0 = true then
    ab_b2 (sX9_within x1 0 3 w) fun v1 w2 =>
    if v1 = 0 then
      ab_b2 (sX9_fail x0 1 w2) fun v3 w4 =>
      some (v3, w4)
    else
    (ab_getR w2 9 x0 1).bind fun v5 =>
    (ab_rald w2 3 v5 x1).bind fun v6 =>
    ab_b2 (sX5_isMissing v6 w2) fun v7 w8 =>
    if v7 = 0 then
      (ab_getI w8 5 v6 2).bind fun v9 =>
      ab_b2 (sX9_within x2 0 (v9 - 1) w8) fun v10 w11 =>
      if v10 = 0 then
        ab_b2 (sX9_fail x0 1 w11) fun v12 w13 =>
        some (v12, w13)
      else
      (ab_getR w11 5 v6 0).bind fun v14 =>
      ab_b2 (sX5_lowestBits v6 x3 w11) fun v15 w16 =>
      (ab_ast w16 v14 x2 v15).bind fun w17 =>
      some (1, w17)
    else
    ab_b2 (sX9_fail x0 2 w8) fun v18 w19 =>
    some (v18, w19)
  else none
def sX5_holds (x0 : Nat) (x1 : Int32) (x2 : Int32) (w : ab_W) : Option (Int32 × ab_W) :=
  if ab_is w 5 x0 = true then
    if x1 < 0 then
      (ab_bool 0).bind fun y => some (y, w)
    else
    if x2 < 0 then
      (ab_bool 0).bind fun y => some (y, w)
    else
    (ab_getI w 5 x0 2).bind fun v1 =>
    if v1 < x2 then
      (ab_bool 0).bind fun y => some (y, w)
    else
    (ab_getI w 5 x0 2).bind fun v2 =>
    if (v2 - x2) < x1 then
      (ab_bool 0).bind fun y => some (y, w)
    else
    (ab_bool 1).bind fun y => some (y, w)
  else none
def sX9_move_18 (x0 : Nat) (w : ab_W) : Option (Int32 × ab_W) :=
    ab_b2 (sX9_fail x0 1 w) fun v1 w2 =>
    some (v1, w2)
def sX9_move_56 (x0 : Nat) (w : ab_W) : Option (Int32 × ab_W) :=
    ab_b2 (sX9_fail x0 2 w) fun v1 w2 =>
    some (v1, w2)
def sX9_move_104 (x0 : Nat) (w : ab_W) : Option (Int32 × ab_W) :=
    ab_b2 (sX9_fail x0 1 w) fun v1 w2 =>
    some (v1, w2)
def sX9_move (x0 : Nat) (x1 : Int32) (x2 : Int32) (x3 : Int32) (x4 : Int32) (x5 : Int32) (w : ab_W) : Option (Int32 × ab_W) :=
  if ab_is w 9 x0 = true then
    ab_b2 (sX9_within x1 0 3 w) fun v1 w2 =>
    if v1 = 0 then
      sX9_move_18 x0 w2
    else
    ab_b2 (sX9_within x3 0 3 w2) fun v3 w4 =>
    if v3 = 0 then
      sX9_move_18 x0 w4
    else
    (ab_getR w4 9 x0 1).bind fun v5 =>
    (ab_rald w4 3 v5 x1).bind fun v6 =>
    (ab_getR w4 9 x0 1).bind fun v7 =>
    (ab_rald w4 3 v7 x3).bind fun v8 =>
    ab_b2 (sX5_isMissing v6 w4) fun v9 w10 =>
    if v9 = 0 then
      ab_b2 (sX5_isMissing v8 w10) fun v11 w12 =>
      if v11 = 0 then
        (ab_getI w12 5 v6 1).bind fun v13 =>
        (ab_getI w12 5 v8 1).bind fun v14 =>
        if v13 = v14 then
          ab_b2 (sX5_holds v6 x2 x5 w12) fun v15 w16 =>
          if v15 = 0 then
            sX9_move_104 x0 w16
          else
          ab_b2 (sX5_holds v8 x4 x5 w16) fun v17 w18 =>
          if v17 = 0 then
            sX9_move_104 x0 w18
          else
          (ab_getR w18 5 v6 0).bind fun v19 =>
          (ab_getR w18 5 v8 0).bind fun v20 =>
          (ab_cpy w18 v19 x2 v20 x4 x5).bind fun w21 =>
          some (x5, w21)
        else
        ab_b2 (sX9_fail x0 5 w12) fun v22 w23 =>
        some (v22, w23)
      else
      sX9_move_56 x0 w12
    else
    sX9_move_56 x0 w10
  else none
def sX9_debts_37 : Nat → Nat → Nat → Int32 → ab_W → Option (Int32 × ab_W)
  | 0, _, _, _, _ => none
  | n + 1, x0, x2, x3, w =>
    (ab_getI w 5 x2 2).bind fun v1 =>
    if x3 < v1 then
      (ab_getR w 9 x0 3).bind fun v2 =>
      (ab_getI w 0 v2 4).bind fun v3 =>
      if x3 < v3 then
        (ab_getR w 5 x2 0).bind fun v4 =>
        (ab_ald w v4 x3).bind fun v5 =>
        ab_b2 (sX9_within v5 0 9999 w) fun v6 w7 =>
        if v6 = 0 then
          some (x3, w7)
        else
        (ab_getR w7 9 x0 3).bind fun v8 =>
        (ab_getR w7 0 v8 0).bind fun v9 =>
        (ab_rald w7 1 v9 x3).bind fun v10 =>
        (ab_getR w7 5 x2 0).bind fun v11 =>
        (ab_ald w7 v11 x3).bind fun v12 =>
        (ab_putI w7 3 v10 2 v12).bind fun w13 =>
        sX9_debts_37 n x0 x2 (x3 + 1) w13
      else
      some (x3, w)
    else
    some (x3, w)
def sX9_debts (x0 : Nat) (x1 : Int32) (w : ab_W) : Option (Int32 × ab_W) :=
  if ab_is w 9 x0 = true then
    ab_b2 (sX9_within x1 0 3 w) fun v1 w2 =>
    if v1 = 0 then
      ab_b2 (sX9_fail x0 1 w2) fun v3 w4 =>
      some (v3, w4)
    else
    (ab_getR w2 9 x0 1).bind fun v5 =>
    (ab_rald w2 3 v5 x1).bind fun v6 =>
    ab_b2 (sX5_isMissing v6 w2) fun v7 w8 =>
    if v7 = 0 then
      sX9_debts_37 1000 x0 v6 0 w8
    else
    ab_b2 (sX9_fail x0 2 w8) fun v9 w10 =>
    some (v9, w10)
  else none
def sX9_judge_53 : Nat → Nat → Nat → Int32 → Int32 → ab_W → Option (Int32 × ab_W)
  | 0, _, _, _, _, _ => none
  | n + 1, x0, x2, x3, x4, w =>
    if x4 < x3 then
      (ab_getR w 5 x2 0).bind fun v1 =>
      (ab_ald w v1 x4).bind fun v2 =>
      (ab_getR w 9 x0 3).bind fun v3 =>
      (ab_getR w 0 v3 0).bind fun v4 =>
      (ab_rald w 1 v4 x4).bind fun v5 =>
      (ab_getI w 3 v5 3).bind fun v6 =>
      if v2 = v6 then
        sX9_judge_53 n x0 x2 x3 (x4 + 1) w
      else
      some (x4, w)
    else
    (ab_getI w 5 x2 2).bind fun v7 =>
    (ab_getR w 9 x0 3).bind fun v8 =>
    (ab_getI w 0 v8 4).bind fun v9 =>
    if v7 = v9 then
      some ((-1), w)
    else
    some (x3, w)
def sX9_judge (x0 : Nat) (x1 : Int32) (w : ab_W) : Option (Int32 × ab_W) :=
  if ab_is w 9 x0 = true then
    ab_b2 (sX9_within x1 0 3 w) fun v1 w2 =>
    if v1 = 0 then
      ab_b2 (sX9_fail x0 1 w2) fun v3 w4 =>
      some (v3, w4)
    else
    (ab_getR w2 9 x0 1).bind fun v5 =>
    (ab_rald w2 3 v5 x1).bind fun v6 =>
    ab_b2 (sX5_isMissing v6 w2) fun v7 w8 =>
    if v7 = 0 then
      (ab_getI w8 5 v6 2).bind fun v9 =>
      (ab_getR w8 9 x0 3).bind fun v10 =>
      (ab_getI w8 0 v10 4).bind fun v11 =>
      sX9_judge_53 1000 x0 v6 (if v11 < v9 then v11 else v9) 0 w8
    else
    ab_b2 (sX9_fail x0 2 w8) fun v12 w13 =>
    some (v12, w13)
  else none
def sX3_copyFrom (x0 : Nat) (x1 : Nat) (w : ab_W) : Option (ab_W) :=
  if ab_is w 3 x0 = true then
    (ab_getI w 3 x1 0).bind fun v1 =>
    (ab_putI w 3 x0 0 v1).bind fun w2 =>
    (ab_getI w2 3 x1 1).bind fun v3 =>
    (ab_putI w2 3 x0 1 v3).bind fun w4 =>
    (ab_getI w4 3 x1 2).bind fun v5 =>
    (ab_putI w4 3 x0 2 v5).bind fun w6 =>
    (ab_getI w6 3 x1 3).bind fun v7 =>
    (ab_putI w6 3 x0 3 v7).bind fun w8 =>
    (ab_getI w8 3 x1 4).bind fun v9 =>
    (ab_putZ w8 3 x0 4 v9).bind fun w10 =>
    (ab_getI w10 3 x1 5).bind fun v11 =>
    (ab_putI w10 3 x0 5 v11).bind fun w12 =>
    some w12
  else none
def sX0_copyFrom_31 : Nat → Nat → Nat → Int32 → ab_W → Option (ab_W)
  | 0, _, _, _, _ => none
  | n + 1, x0, x1, x2, w =>
    if x2 < 2 then
      (ab_getR w 0 x0 2).bind fun v1 =>
      (ab_rald w 2 v1 x2).bind fun v2 =>
      (ab_getR w 0 x1 2).bind fun v3 =>
      (ab_rald w 2 v3 x2).bind fun v4 =>
      (sX2_copyFrom v2 v4 w).bind fun w5 =>
      sX0_copyFrom_31 n x0 x1 (x2 + 1) w5
    else
    (ab_getR w 0 x1 1).bind fun v6 =>
    (ab_getR w 0 x0 1).bind fun v7 =>
    (ab_cpy w v6 0 v7 0 50).bind fun w8 =>
    (ab_getR w8 0 x1 3).bind fun v9 =>
    (ab_getR w8 0 x0 3).bind fun v10 =>
    (ab_cpy w8 v9 0 v10 0 20).bind fun w11 =>
    (ab_getI w11 0 x1 4).bind fun v12 =>
    (ab_putI w11 0 x0 4 v12).bind fun w13 =>
    (ab_getI w13 0 x1 5).bind fun v14 =>
    (ab_putI w13 0 x0 5 v14).bind fun w15 =>
    (ab_getI w15 0 x1 6).bind fun v16 =>
    (ab_putI w15 0 x0 6 v16).bind fun w17 =>
    (ab_getI w17 0 x1 7).bind fun v18 =>
    (ab_putI w17 0 x0 7 v18).bind fun w19 =>
    (ab_getI w19 0 x1 8).bind fun v20 =>
    (ab_putI w19 0 x0 8 v20).bind fun w21 =>
    (ab_getI w21 0 x1 9).bind fun v22 =>
    (ab_putI w21 0 x0 9 v22).bind fun w23 =>
    some w23
def sX0_copyFrom_2 : Nat → Nat → Nat → Int32 → ab_W → Option (ab_W)
  | 0, _, _, _, _ => none
  | n + 1, x0, x1, x2, w =>
    if x2 < 8 then
      (ab_getR w 0 x0 0).bind fun v1 =>
      (ab_rald w 1 v1 x2).bind fun v2 =>
      (ab_getR w 0 x1 0).bind fun v3 =>
      (ab_rald w 1 v3 x2).bind fun v4 =>
      (sX3_copyFrom v2 v4 w).bind fun w5 =>
      sX0_copyFrom_2 n x0 x1 (x2 + 1) w5
    else
    sX0_copyFrom_31 1000 x0 x1 0 w
def sX0_copyFrom (x0 : Nat) (x1 : Nat) (w : ab_W) : Option (ab_W) :=
  if ab_is w 0 x0 = true then
    sX0_copyFrom_2 1000 x0 x1 0 w
  else none
def sX9_image (x0 : Nat) (w : ab_W) : Option (Int32 × ab_W) :=
  if ab_is w 9 x0 = true then
    (ab_getR w 9 x0 4).bind fun v1 =>
    (ab_getR w 9 x0 3).bind fun v2 =>
    (sX0_copyFrom v1 v2 w).bind fun w3 =>
    (ab_getI w3 9 x0 8).bind fun v4 =>
    (ab_putI w3 9 x0 8 (v4 + 1)).bind fun w5 =>
    (ab_getI w5 9 x0 8).bind fun v6 =>
    some (v6, w5)
  else none
def sX9_restore (x0 : Nat) (w : ab_W) : Option (Int32 × ab_W) :=
  if ab_is w 9 x0 = true then
    (ab_getI w 9 x0 8).bind fun v1 =>
    if v1 = 0 then
      ab_b2 (sX9_fail x0 2 w) fun v2 w3 =>
      some (v2, w3)
    else
    (ab_getR w 9 x0 3).bind fun v4 =>
    (ab_getR w 9 x0 4).bind fun v5 =>
    (sX0_copyFrom v4 v5 w).bind fun w6 =>
    (ab_getR w6 9 x0 3).bind fun v7 =>
    (ab_getI w6 0 v7 5).bind fun v8 =>
    some (v8, w6)
  else none
def sX9_tell (x0 : Nat) (x1 : Int32) (w : ab_W) : Option (Int32 × ab_W) :=
  if ab_is w 9 x0 = true then
    (ab_getR w 9 x0 3).bind fun v1 =>
    (ab_getI w 0 v1 8).bind fun v2 =>
    if v2 < 20 then
      (ab_getR w 9 x0 3).bind fun v3 =>
      (ab_getR w 0 v3 3).bind fun v4 =>
      (ab_getR w 9 x0 3).bind fun v5 =>
      (ab_getI w 0 v5 8).bind fun v6 =>
      (ab_ast w v4 v6 x1).bind fun w7 =>
      (ab_getR w7 9 x0 3).bind fun v8 =>
      (ab_getI w7 0 v8 8).bind fun v9 =>
      (ab_putI w7 0 v8 8 (v9 + 1)).bind fun w10 =>
      (ab_getR w10 9 x0 3).bind fun v11 =>
      (ab_getI w10 0 v11 8).bind fun v12 =>
      some (v12, w10)
    else
    ab_b2 (sX9_fail x0 4 w) fun v13 w14 =>
    some (v13, w14)
  else none
def sX7_firstWrong_97 : Nat → Nat → Nat → Int32 → ab_W → Option (Int32 × ab_W)
  | 0, _, _, _, _ => none
  | n + 1, x0, x1, x3, w =>
    (ab_getI w 0 x1 8).bind fun v1 =>
    if x3 < v1 then
      (ab_getR w 0 x1 3).bind fun v2 =>
      (ab_ald w v2 x3).bind fun v3 =>
      (ab_getR w 7 x0 5).bind fun v4 =>
      (ab_ald w v4 x3).bind fun v5 =>
      if v3 = v5 then
        sX7_firstWrong_97 n x0 x1 (x3 + 1) w
      else
      some (x3, w)
    else
    some ((-1), w)
def sX7_firstWrong_42 (k10 : Nat → Nat → Nat → Int32 → ab_W → Option (Int32 × ab_W)) : Nat → Nat → Nat → Nat → Int32 → Int32 → ab_W → Option (Int32 × ab_W)
  | 0, _, _, _, _, _, _ => none
  | n + 1, x0, x1, x2, x3, x5, w =>
    (ab_getI w 0 x1 8).bind fun v1 =>
    if x5 < v1 then
      (ab_getR w 7 x0 4).bind fun v2 =>
      (ab_getI w 0 x1 5).bind fun v3 =>
      (sX1_goAndLapse v2 x1 (v3 + x5) w).bind fun w4 =>
      (ab_getR w4 7 x0 5).bind fun v5 =>
      (ab_ald w4 v5 x5).bind fun v6 =>
      (ab_getR w4 7 x0 4).bind fun v7 =>
      (ab_getI w4 1 v7 1).bind fun v8 =>
      (ab_ast w4 v5 x5 (v6 + v8)).bind fun w9 =>
      sX7_firstWrong_42 k10 n x0 x1 x2 x3 (x5 + 1) w9
    else
    k10 x0 x1 x2 (x3 + 1) w
def sX7_firstWrong_10 : Nat → Nat → Nat → Nat → Int32 → ab_W → Option (Int32 × ab_W)
  | 0, _, _, _, _, _ => none
  | n + 1, x0, x1, x2, x3, w =>
    (ab_getI w 0 x1 4).bind fun v1 =>
    if x3 < v1 then
      (ab_getR w 0 x1 0).bind fun v2 =>
      (ab_rald w 1 v2 x3).bind fun v3 =>
      (ab_getI w 3 v3 4).bind fun v4 =>
      (sX7_follow x0 x1 x2 v3 v4 w).bind fun w5 =>
      sX7_firstWrong_42 (sX7_firstWrong_10 n) 1000 x0 x1 x2 x3 0 w5
    else
    sX7_firstWrong_97 1000 x0 x1 0 w
def sX7_firstWrong (x0 : Nat) (x1 : Nat) (x2 : Nat) (w : ab_W) : Option (Int32 × ab_W) :=
  if ab_is w 7 x0 = true then
    (ab_getR w 7 x0 5).bind fun v1 =>
    (sJ7_fill_53178 v1 0 w).bind fun w2 =>
    sX7_firstWrong_10 1000 x0 x1 x2 0 w2
  else none
def sX9_check (x0 : Nat) (w : ab_W) : Option (Int32 × ab_W) :=
  if ab_is w 9 x0 = true then
    (ab_getR w 9 x0 5).bind fun v1 =>
    (ab_getR w 9 x0 3).bind fun v2 =>
    (ab_getR w 9 x0 2).bind fun v3 =>
    ab_b2 (sX7_firstWrong v1 v2 v3 w) fun v4 w5 =>
    (ab_getR w5 9 x0 3).bind fun v6 =>
    (ab_putI w5 0 v6 8 0).bind fun w7 =>
    some ((v4 + 1), w7)
  else none
def sX0_upFrom_43 (k4 : Nat → Int32 → Int32 → Int32 → ab_W → Option (Int32 × ab_W)) (x0 : Nat) (x1 : Int32) (x2 : Int32) (x3 : Int32) (w : ab_W) : Option (Int32 × ab_W) :=
    k4 x0 x1 x2 (x3 + 1) w
def sX0_upFrom_4 : Nat → Nat → Int32 → Int32 → Int32 → ab_W → Option (Int32 × ab_W)
  | 0, _, _, _, _, _ => none
  | n + 1, x0, x1, x2, x3, w =>
    (ab_getI w 0 x0 4).bind fun v1 =>
    if x3 < v1 then
      (ab_getR w 0 x0 0).bind fun v2 =>
      (ab_rald w 1 v2 x3).bind fun v3 =>
      (ab_getI w 3 v3 4).bind fun v4 =>
      if v4 = 0 then
        sX0_upFrom_43 (sX0_upFrom_4 n) x0 x1 x2 x3 w
      else
      (ab_getR w 0 x0 0).bind fun v5 =>
      (ab_rald w 1 v5 x3).bind fun v6 =>
      (ab_getI w 3 v6 5).bind fun v7 =>
      if v7 < x1 then
        sX0_upFrom_43 (sX0_upFrom_4 n) x0 x1 x2 x3 w
      else
      sX0_upFrom_43 (sX0_upFrom_4 n) x0 x1 (x2 ||| (1 <<< (x3 &&& 31))) x3 w
    else
    some (x2, w)
def sX0_upFrom (x0 : Nat) (x1 : Int32) (w : ab_W) : Option (Int32 × ab_W) :=
  if ab_is w 0 x0 = true then
    sX0_upFrom_4 1000 x0 x1 0 0 w
  else none
def sX9_count (x0 : Nat) (x1 : Int32) (w : ab_W) : Option (Int32 × ab_W) :=
  if ab_is w 9 x0 = true then
    if x1 = 0 then
      (ab_getR w 9 x0 3).bind fun v1 =>
      (ab_getI w 0 v1 4).bind fun v2 =>
      some (v2, w)
    else
    if x1 = 1 then
      (ab_getR w 9 x0 3).bind fun v3 =>
      (ab_getI w 0 v3 5).bind fun v4 =>
      some (v4, w)
    else
    if x1 = 2 then
      (ab_getR w 9 x0 3).bind fun v5 =>
      (ab_getI w 0 v5 6).bind fun v6 =>
      some (v6, w)
    else
    if x1 = 3 then
      (ab_getR w 9 x0 3).bind fun v7 =>
      ab_b2 (sX0_debtOfAll v7 w) fun v8 w9 =>
      some (v8, w9)
    else
    if x1 = 4 then
      (ab_getR w 9 x0 3).bind fun v10 =>
      ab_b2 (sX0_upFrom v10 0 w) fun v11 w12 =>
      some (v11, w12)
    else
    if x1 = 5 then
      (ab_getR w 9 x0 3).bind fun v13 =>
      ab_b2 (sX0_upFrom v13 100 w) fun v14 w15 =>
      some (v14, w15)
    else
    if x1 = 6 then
      (ab_getR w 9 x0 3).bind fun v16 =>
      (ab_getI w 0 v16 7).bind fun v17 =>
      some (v17, w)
    else
    if x1 = 7 then
      (ab_getR w 9 x0 3).bind fun v18 =>
      (ab_getI w 0 v18 8).bind fun v19 =>
      some (v19, w)
    else
    if x1 = 8 then
      (ab_getR w 9 x0 7).bind fun v20 =>
      (ab_getI w 8 v20 1).bind fun v21 =>
      some (v21, w)
    else
    if x1 = 9 then
      (ab_getR w 9 x0 3).bind fun v22 =>
      (ab_getI w 0 v22 9).bind fun v23 =>
      some (v23, w)
    else
    ab_b2 (sX9_fail x0 1 w) fun v24 w25 =>
    some (v24, w25)
  else none
def sX9_told (x0 : Nat) (x1 : Int32) (w : ab_W) : Option (Int32 × ab_W) :=
  if ab_is w 9 x0 = true then
    ab_b2 (sX9_within x1 1 5 w) fun v1 w2 =>
    if v1 = 0 then
      ab_b2 (sX9_fail x0 1 w2) fun v3 w4 =>
      some (v3, w4)
    else
    (ab_getR w2 9 x0 0).bind fun v5 =>
    (ab_ald w2 v5 x1).bind fun v6 =>
    some (v6, w2)
  else none
def sX10_in (x0 : Int32) (x1 : Int32) (x2 : Int32) (w : ab_W) : Option (Int32 × ab_W) :=
    if x0 < x1 then
      (ab_bool 0).bind fun y => some (y, w)
    else
    if x2 < x0 then
      (ab_bool 0).bind fun y => some (y, w)
    else
    (ab_bool 1).bind fun y => some (y, w)
def sX10_errs (x0 : Nat) (x1 : Int32) (w : ab_W) : Option (Int32 × ab_W) :=
  if ab_is w 10 x0 = true then
    (ab_getR w 10 x0 6).bind fun v1 =>
    (ab_ald w v1 ((-1000000000) - x1)).bind fun v2 =>
    (ab_ast w v1 ((-1000000000) - x1) (v2 + 1)).bind fun w3 =>
    some (x1, w3)
  else none
def sX10_held (x0 : Int32) (x1 : Int32) (x2 : Int32) (w : ab_W) : Option (Int32 × ab_W) :=
    if x0 < x1 then
      some (x1, w)
    else
    if x2 < x0 then
      some (x2, w)
    else
    some (x0, w)
def sX10_moveAll_2 : Nat → Nat → Nat → Int32 → ab_W → Option (ab_W)
  | 0, _, _, _, _ => none
  | n + 1, x1, x2, x3, w =>
    if x3 < 226 then
      (ab_ald w x1 x3).bind fun v1 =>
      (ab_ast w x2 x3 v1).bind fun w2 =>
      sX10_moveAll_2 n x1 x2 (x3 + 1) w2
    else
    some w
def sX10_moveAll (x0 : Nat) (x1 : Nat) (x2 : Nat) (w : ab_W) : Option (ab_W) :=
  if ab_is w 10 x0 = true then
    sX10_moveAll_2 1000 x1 x2 0 w
  else none
def sX10_bits_4 : Nat → Int32 → Int32 → ab_W → Option (Int32 × ab_W)
  | 0, _, _, _ => none
  | n + 1, x1, x2, w =>
    if x2 = 0 then
      some (x1, w)
    else
    sX10_bits_4 n (x1 + 1) (x2 &&& (x2 - 1)) w
def sX10_bits (x0 : Int32) (w : ab_W) : Option (Int32 × ab_W) :=
    sX10_bits_4 1000 0 x0 w
def sX10_its (x0 : Nat) (x1 : Int32) (x2 : Int32) (w : ab_W) : Option (Int32 × ab_W) :=
  if ab_is w 10 x0 = true then
    (ab_getR w 10 x0 0).bind fun v1 =>
    (ab_ald w v1 ((8 + (6 * x1)) + x2)).bind fun v2 =>
    some (v2, w)
  else none
def sX10_gets (x0 : Nat) (x1 : Int32) (x2 : Int32) (x3 : Int32) (w : ab_W) : Option (ab_W) :=
  if ab_is w 10 x0 = true then
    (ab_getR w 10 x0 0).bind fun v1 =>
    (ab_ast w v1 ((8 + (6 * x1)) + x2) x3).bind fun w2 =>
    some w2
  else none
def sX10_isPaper (x0 : Nat) (x1 : Int32) (w : ab_W) : Option (Int32 × ab_W) :=
  if ab_is w 10 x0 = true then
    (ab_getR w 10 x0 0).bind fun v1 =>
    (ab_ald w v1 2).bind fun v2 =>
    ab_b2 (sX10_in x1 0 (v2 - 1) w) fun v3 w4 =>
    (ab_bool v3).bind fun y => some (y, w4)
  else none
def sX10_isSet (x0 : Int32) (w : ab_W) : Option (Int32 × ab_W) :=
    ab_b2 (sX10_in x0 0 127 w) fun v1 w2 =>
    (ab_bool v1).bind fun y => some (y, w2)
def sX10_becomes (x0 : Nat) (x1 : Int32) (x2 : Int32) (w : ab_W) : Option (Int32 × ab_W) :=
  if ab_is w 10 x0 = true then
    (ab_getR w 10 x0 0).bind fun v1 =>
    (ab_ald w v1 x1).bind fun v2 =>
    (ab_getR w 10 x0 0).bind fun v3 =>
    (ab_ast w v3 x1 x2).bind fun w4 =>
    some (v2, w4)
  else none
def sX10_paper_21 (x0 : Nat) (w : ab_W) : Option (Int32 × ab_W) :=
    ab_b2 (sX10_errs x0 (-1000000001) w) fun v1 w2 =>
    some (v1, w2)
def sX10_paper (x0 : Nat) (x1 : Int32) (x2 : Int32) (w : ab_W) : Option (Int32 × ab_W) :=
  if ab_is w 10 x0 = true then
    ab_b2 (sX10_in x1 0 69 w) fun v1 w2 =>
    if v1 = 0 then
      sX10_paper_21 x0 w2
    else
    ab_b2 (sX10_in x2 0 9999 w2) fun v3 w4 =>
    if v3 = 0 then
      sX10_paper_21 x0 w4
    else
    (ab_getR w4 10 x0 0).bind fun v5 =>
    (ab_ald w4 v5 2).bind fun v6 =>
    if v6 = 8 then
      ab_b2 (sX10_errs x0 (-1000000004) w4) fun v7 w8 =>
      some (v7, w8)
    else
    (ab_getR w4 10 x0 0).bind fun v9 =>
    (ab_ald w4 v9 2).bind fun v10 =>
    (ab_div x1 10).bind fun v11 =>
    (sX10_gets x0 v10 0 v11 w4).bind fun w12 =>
    (ab_rem x1 10).bind fun v13 =>
    (sX10_gets x0 v10 1 v13 w12).bind fun w14 =>
    (sX10_gets x0 v10 2 x2 w14).bind fun w15 =>
    (sX10_gets x0 v10 3 0 w15).bind fun w16 =>
    (sX10_gets x0 v10 4 0 w16).bind fun w17 =>
    (sX10_gets x0 v10 5 0 w17).bind fun w18 =>
    (ab_getR w18 10 x0 0).bind fun v19 =>
    (ab_ald w18 v19 2).bind fun v20 =>
    (ab_ast w18 v19 2 (v20 + 1)).bind fun w21 =>
    some (v10, w21)
  else none
def sX10_lies_87 (k39 : Nat → Int32 → Int32 → Int32 → Int32 → ab_W → Option (ab_W)) (x0 : Nat) (x1 : Int32) (x2 : Int32) (x4 : Int32) (p0 : Int32) (w : ab_W) : Option (ab_W) :=
    (ab_getR w 10 x0 15).bind fun v1 =>
    (ab_ald w v1 x2).bind fun v2 =>
    (ab_ast w v1 x2 (v2 + 1)).bind fun w3 =>
    k39 x0 x1 x2 p0 (x4 + 1) w3
def sX10_lies_74 (k39 : Nat → Int32 → Int32 → Int32 → Int32 → ab_W → Option (ab_W)) (x0 : Nat) (x1 : Int32) (x3 : Int32) (x4 : Int32) (x5 : Int32) (p0 : Int32) (p1 : Int32) (w : ab_W) : Option (ab_W) :=
    if x5 = 0 then
      sX10_lies_87 k39 x0 x1 (p0 + p1) x4 x3 w
    else
    sX10_lies_87 k39 x0 x1 (p0 + p1) x4 (-x3) w
def sX10_lies_61 (k39 : Nat → Int32 → Int32 → Int32 → Int32 → ab_W → Option (ab_W)) (x0 : Nat) (x1 : Int32) (x2 : Int32) (x3 : Int32) (x4 : Int32) (p0 : Int32) (w : ab_W) : Option (ab_W) :=
    if p0 = 0 then
      sX10_lies_74 k39 x0 x1 x3 x4 p0 x2 x3 w
    else
    sX10_lies_74 k39 x0 x1 x3 x4 p0 x2 0 w
def sX10_lies_39 : Nat → Nat → Int32 → Int32 → Int32 → Int32 → ab_W → Option (ab_W)
  | 0, _, _, _, _, _, _ => none
  | n + 1, x0, x1, x2, x3, x4, w =>
    if x4 < 7 then
      if ((x1 >>> (x4 &&& 31)) &&& 1) = 1 then
        sX10_lies_61 (sX10_lies_39 n) x0 x1 x2 x3 x4 1 w
      else
      sX10_lies_61 (sX10_lies_39 n) x0 x1 x2 x3 x4 0 w
    else
    some w
def sX10_lies_2 : Nat → Nat → Int32 → Int32 → ab_W → Option (ab_W)
  | 0, _, _, _, _ => none
  | n + 1, x0, x1, x2, w =>
    if x2 < 16 then
      (ab_getR w 10 x0 15).bind fun v1 =>
      (ab_ast w v1 x2 0).bind fun w2 =>
      sX10_lies_2 n x0 x1 (x2 + 1) w2
    else
    (ab_getR w 10 x0 15).bind fun v3 =>
    (ab_ald w v3 8).bind fun v4 =>
    (ab_ast w v3 8 (v4 + 1)).bind fun w5 =>
    sX10_lies_39 1000 x0 x1 8 1 0 w5
def sX10_lies (x0 : Nat) (x1 : Int32) (w : ab_W) : Option (ab_W) :=
  if ab_is w 10 x0 = true then
    sX10_lies_2 1000 x0 x1 0 w
  else none
def sX10_wide_25 : Nat → Nat → Int32 → Int32 → ab_W → Option (Int32 × ab_W)
  | 0, _, _, _, _ => none
  | n + 1, x0, x2, x3, w =>
    (ab_getR w 10 x0 15).bind fun v1 =>
    (ab_ald w v1 x3).bind fun v2 =>
    if v2 = 0 then
      sX10_wide_25 n x0 x2 (x3 + (-1)) w
    else
    some (((x3 - x2) + 1), w)
def sX10_wide_10 : Nat → Nat → Int32 → Int32 → ab_W → Option (Int32 × ab_W)
  | 0, _, _, _, _ => none
  | n + 1, x0, x2, x3, w =>
    (ab_getR w 10 x0 15).bind fun v1 =>
    (ab_ald w v1 x2).bind fun v2 =>
    if v2 = 0 then
      sX10_wide_10 n x0 (x2 + 1) x3 w
    else
    sX10_wide_25 1000 x0 x2 x3 w
def sX10_wide (x0 : Nat) (x1 : Int32) (w : ab_W) : Option (Int32 × ab_W) :=
  if ab_is w 10 x0 = true then
    (sX10_lies x0 x1 w).bind fun w1 =>
    sX10_wide_10 1000 x0 0 15 w1
  else none
def sX10_widest (x0 : Nat) (x1 : Int32) (w : ab_W) : Option (Int32 × ab_W) :=
  if ab_is w 10 x0 = true then
    ab_b2 (sX10_its x0 x1 0 w) fun v1 w2 =>
    if v1 = 1 then
      ab_b2 (sX10_its x0 x1 1 w2) fun v3 w4 =>
      (ab_rem v3 3).bind fun v5 =>
      some ((4 + v5), w4)
    else
    if v1 = 2 then
      some (5, w2)
    else
    if v1 = 3 then
      some (3, w2)
    else
    if v1 = 4 then
      ab_b2 (sX10_its x0 x1 1 w2) fun v6 w7 =>
      (ab_rem v6 3).bind fun v8 =>
      some ((4 + v8), w7)
    else
    if v1 = 5 then
      some (5, w2)
    else
    if v1 = 6 then
      some (6, w2)
    else
    some (4, w2)
  else none
def sX10_isAlive (x0 : Nat) (x1 : Int32) (x2 : Int32) (w : ab_W) : Option (Int32 × ab_W) :=
  if ab_is w 10 x0 = true then
    if x2 = 0 then
      (ab_bool 0).bind fun y => some (y, w)
    else
    ab_b2 (sX10_wide x0 x2 w) fun v1 w2 =>
    ab_b2 (sX10_widest x0 x1 w2) fun v3 w4 =>
    if v3 < v1 then
      (ab_bool 0).bind fun y => some (y, w4)
    else
    (ab_bool 1).bind fun y => some (y, w4)
  else none
def sX10_stiff (x0 : Nat) (x1 : Int32) (w : ab_W) : Option (Int32 × ab_W) :=
  if ab_is w 10 x0 = true then
    ab_b2 (sX10_its x0 x1 1 w) fun v1 w2 =>
    ab_b2 (sX10_its x0 x1 0 w2) fun v3 w4 =>
    if v3 = 1 then
      (ab_rem v1 4).bind fun v5 =>
      some ((8 - v5), w4)
    else
    if v3 = 2 then
      some (4, w4)
    else
    if v3 = 3 then
      some (6, w4)
    else
    if v3 = 4 then
      (ab_rem v1 4).bind fun v6 =>
      some ((7 - v6), w4)
    else
    if v3 = 5 then
      (ab_rem v1 2).bind fun v7 =>
      some ((4 + v7), w4)
    else
    if v3 = 6 then
      some (3, w4)
    else
    some (8, w4)
  else none
def sX10_thick_35 (k9 : Nat → Int32 → Int32 → ab_W → Option (Int32 × ab_W)) (x0 : Nat) (x3 : Int32) (p0 : Int32) (w : ab_W) : Option (Int32 × ab_W) :=
    k9 x0 p0 (x3 + 1) w
def sX10_thick_9 : Nat → Nat → Int32 → Int32 → ab_W → Option (Int32 × ab_W)
  | 0, _, _, _, _ => none
  | n + 1, x0, x2, x3, w =>
    if x3 < 16 then
      (ab_getR w 10 x0 15).bind fun v1 =>
      (ab_ald w v1 x3).bind fun v2 =>
      if x2 < v2 then
        (ab_getR w 10 x0 15).bind fun v3 =>
        (ab_ald w v3 x3).bind fun v4 =>
        sX10_thick_35 (sX10_thick_9 n) x0 x3 v4 w
      else
      sX10_thick_35 (sX10_thick_9 n) x0 x3 x2 w
    else
    some (x2, w)
def sX10_thick (x0 : Nat) (x1 : Int32) (w : ab_W) : Option (Int32 × ab_W) :=
  if ab_is w 10 x0 = true then
    (sX10_lies x0 x1 w).bind fun w1 =>
    sX10_thick_9 1000 x0 0 0 w1
  else none
def sX10_ofPaper_18 (x0 : Nat) (w : ab_W) : Option (Int32 × ab_W) :=
    ab_b2 (sX10_errs x0 (-1000000001) w) fun v1 w2 =>
    some (v1, w2)
def sX10_ofPaper (x0 : Nat) (x1 : Int32) (x2 : Int32) (w : ab_W) : Option (Int32 × ab_W) :=
  if ab_is w 10 x0 = true then
    ab_b2 (sX10_isPaper x0 x1 w) fun v1 w2 =>
    if v1 = 0 then
      sX10_ofPaper_18 x0 w2
    else
    ab_b2 (sX10_in x2 0 9 w2) fun v3 w4 =>
    if v3 = 0 then
      sX10_ofPaper_18 x0 w4
    else
    if x2 = 6 then
      ab_b2 (sX10_its x0 x1 3 w4) fun v5 w6 =>
      ab_b2 (sX10_wide x0 v5 w6) fun v7 w8 =>
      some (v7, w8)
    else
    if x2 = 7 then
      ab_b2 (sX10_its x0 x1 3 w4) fun v9 w10 =>
      ab_b2 (sX10_thick x0 v9 w10) fun v11 w12 =>
      some (v11, w12)
    else
    if x2 = 8 then
      ab_b2 (sX10_stiff x0 x1 w4) fun v13 w14 =>
      some (v13, w14)
    else
    if x2 = 9 then
      ab_b2 (sX10_its x0 x1 3 w4) fun v15 w16 =>
      ab_b2 (sX10_isAlive x0 x1 v15 w16) fun v17 w18 =>
      if v17 = 0 then
        some (0, w18)
      else
      some (1, w18)
    else
    ab_b2 (sX10_its x0 x1 x2 w4) fun v19 w20 =>
    some (v19, w20)
  else none
def sX10_change_65 (x0 : Nat) (w : ab_W) : Option (Int32 × ab_W) :=
    ab_b2 (sX10_errs x0 (-1000000001) w) fun v1 w2 =>
    some (v1, w2)
def sX10_change_98 (x3 : Int32) (p0 : Nat) (p1 : Int32) (p2 : Int32) (w : ab_W) : Option (Int32 × ab_W) :=
    ab_b2 (sX10_becomes p0 (p1 + p2) x3 w) fun v1 w2 =>
    some (v1, w2)
def sX10_change_50 (x0 : Nat) (x1 : Int32) (x2 : Int32) (x3 : Int32) (p0 : Int32) (w : ab_W) : Option (Int32 × ab_W) :=
    ab_b2 (sX10_isPaper x0 x1 w) fun v1 w2 =>
    if v1 = 0 then
      sX10_change_65 x0 w2
    else
    if p0 = 0 then
      sX10_change_65 x0 w2
    else
    if x2 = 0 then
      sX10_change_98 x3 x0 (8 + (6 * x1)) 2 w2
    else
    if x2 = 1 then
      sX10_change_98 x3 x0 (8 + (6 * x1)) 4 w2
    else
    sX10_change_98 x3 x0 (8 + (6 * x1)) 5 w2
def sX10_change_49 (x0 : Nat) (x1 : Int32) (x2 : Int32) (x3 : Int32) (w : ab_W) : Option (Int32 × ab_W) :=
    sX10_change_50 x0 x1 x2 x3 0 w
def sX10_change (x0 : Nat) (x1 : Int32) (x2 : Int32) (x3 : Int32) (w : ab_W) : Option (Int32 × ab_W) :=
  if ab_is w 10 x0 = true then
    if x2 = 0 then
      ab_b2 (sX10_in x3 0 9999 w) fun v1 w2 =>
      sX10_change_50 x0 x1 x2 x3 v1 w2
    else
    if x2 = 1 then
      ab_b2 (sX10_in x3 0 1 w) fun v3 w4 =>
      sX10_change_50 x0 x1 x2 x3 v3 w4
    else
    if x2 = 2 then
      ab_b2 (sX10_in x3 0 999 w) fun v5 w6 =>
      if v5 = 0 then
        sX10_change_49 x0 x1 x2 x3 w6
      else
      sX10_change_50 x0 x1 x2 x3 1 w6
    else
    sX10_change_49 x0 x1 x2 x3 w
  else none
def sX10_wind (x0 : Nat) (x1 : Int32) (w : ab_W) : Option (Int32 × ab_W) :=
  if ab_is w 10 x0 = true then
    ab_b2 (sX10_in x1 0 9 w) fun v1 w2 =>
    if v1 = 0 then
      ab_b2 (sX10_errs x0 (-1000000001) w2) fun v3 w4 =>
      some (v3, w4)
    else
    ab_b2 (sX10_becomes x0 7 x1 w2) fun v5 w6 =>
    some (v5, w6)
  else none
def sX10_become_18 (x0 : Nat) (w : ab_W) : Option (Int32 × ab_W) :=
    ab_b2 (sX10_errs x0 (-1000000001) w) fun v1 w2 =>
    some (v1, w2)
def sX10_become (x0 : Nat) (x1 : Int32) (x2 : Int32) (w : ab_W) : Option (Int32 × ab_W) :=
  if ab_is w 10 x0 = true then
    ab_b2 (sX10_isPaper x0 x1 w) fun v1 w2 =>
    if v1 = 0 then
      sX10_become_18 x0 w2
    else
    ab_b2 (sX10_in x2 0 69 w2) fun v3 w4 =>
    if v3 = 0 then
      sX10_become_18 x0 w4
    else
    (ab_rem x2 10).bind fun v5 =>
    (sX10_gets x0 x1 1 v5 w4).bind fun w6 =>
    (ab_div x2 10).bind fun v7 =>
    ab_b2 (sX10_becomes x0 (8 + (6 * x1)) v7 w6) fun v8 w9 =>
    some (v8, w9)
  else none
def sX10_above (x0 : Int32) (w : ab_W) : Option (Int32 × ab_W) :=
    if x0 = 0 then
      some ((-1), w)
    else
    if 3 < x0 then
      some ((x0 - 3), w)
    else
    some (0, w)
def sX10_as_18 (x0 : Nat) (w : ab_W) : Option (Int32 × ab_W) :=
    ab_b2 (sX10_errs x0 (-1000000001) w) fun v1 w2 =>
    some (v1, w2)
def sX10_as_49 (x0 : Nat) (x1 : Int32) (x3 : Int32) (w : ab_W) : Option (Int32 × ab_W) :=
    if x3 < 0 then
      ab_b2 (sX10_errs x0 (-1000000005) w) fun v1 w2 =>
      some (v1, w2)
    else
    ab_b2 (sX10_its x0 x1 1 w) fun v3 w4 =>
    some (v3, w4)
def sX10_as_32 : Nat → Nat → Int32 → Int32 → Int32 → ab_W → Option (Int32 × ab_W)
  | 0, _, _, _, _, _ => none
  | n + 1, x0, x1, x2, x3, w =>
    if x3 < 0 then
      sX10_as_49 x0 x1 x3 w
    else
    if x3 = x2 then
      sX10_as_49 x0 x1 x3 w
    else
    ab_b2 (sX10_above x3 w) fun v1 w2 =>
    sX10_as_32 n x0 x1 x2 v1 w2
def sX10_as (x0 : Nat) (x1 : Int32) (x2 : Int32) (w : ab_W) : Option (Int32 × ab_W) :=
  if ab_is w 10 x0 = true then
    ab_b2 (sX10_isPaper x0 x1 w) fun v1 w2 =>
    if v1 = 0 then
      sX10_as_18 x0 w2
    else
    ab_b2 (sX10_in x2 0 6 w2) fun v3 w4 =>
    if v3 = 0 then
      sX10_as_18 x0 w4
    else
    ab_b2 (sX10_its x0 x1 0 w4) fun v5 w6 =>
    sX10_as_32 1000 x0 x1 x2 v5 w6
  else none
def sX10_byteAt (x0 : Nat) (x1 : Int32) (w : ab_W) : Option (Int32 × ab_W) :=
  if ab_is w 10 x0 = true then
    (ab_getI w 10 x0 9).bind fun v1 =>
    if x1 < v1 then
      (ab_getR w 10 x0 0).bind fun v2 =>
      (ab_getI w 10 x0 7).bind fun v3 =>
      (ab_ald w v2 ((126 + (50 * v3)) + x1)).bind fun v4 =>
      some (v4, w)
    else
    some ((-1), w)
  else none
def sX10_isDigit (x0 : Int32) (w : ab_W) : Option (Int32 × ab_W) :=
    ab_b2 (sX10_in x0 48 57 w) fun v1 w2 =>
    (ab_bool v1).bind fun y => some (y, w2)
def sX10_fails (x0 : Nat) (w : ab_W) : Option (Int32 × ab_W) :=
  if ab_is w 10 x0 = true then
    (ab_putZ w 10 x0 14 0).bind fun w1 =>
    some (0, w1)
  else none
def sX10_number_4 : Nat → Nat → Int32 → Int32 → ab_W → Option (Int32 × ab_W)
  | 0, _, _, _, _ => none
  | n + 1, x0, x1, x2, w =>
    if x2 < 4 then
      (ab_getI w 10 x0 8).bind fun v1 =>
      ab_b2 (sX10_byteAt x0 v1 w) fun v2 w3 =>
      ab_b2 (sX10_isDigit v2 w3) fun v4 w5 =>
      if v4 = 0 then
        some (x1, w5)
      else
      (ab_getI w5 10 x0 8).bind fun v6 =>
      ab_b2 (sX10_byteAt x0 v6 w5) fun v7 w8 =>
      (ab_getI w8 10 x0 8).bind fun v9 =>
      (ab_putI w8 10 x0 8 (v9 + 1)).bind fun w10 =>
      sX10_number_4 n x0 (((10 * x1) + v7) - 48) (x2 + 1) w10
    else
    some (x1, w)
def sX10_number (x0 : Nat) (w : ab_W) : Option (Int32 × ab_W) :=
  if ab_is w 10 x0 = true then
    sX10_number_4 1000 x0 0 0 w
  else none
def sX10_named_91 (x0 : Nat) (x2 : Int32) (x3 : Int32) (w : ab_W) : Option (Int32 × ab_W) :=
    (ab_getI w 10 x0 8).bind fun v1 =>
    (ab_putI w 10 x0 8 (v1 + 1)).bind fun w2 =>
    if x2 = 0 then
      if x3 = 0 then
        (ab_getI w2 10 x0 13).bind fun v3 =>
        some (v3, w2)
      else
      (ab_getI w2 10 x0 12).bind fun v4 =>
      some (v4, w2)
    else
    (ab_getI w2 10 x0 11).bind fun v5 =>
    some (v5, w2)
def sX10_named_71 (x0 : Nat) (x2 : Int32) (x3 : Int32) (p0 : Int32) (w : ab_W) : Option (Int32 × ab_W) :=
    if x2 = 0 then
      if x3 = 0 then
        if p0 = 0 then
          ab_b2 (sX10_fails x0 w) fun v1 w2 =>
          some (v1, w2)
        else
        sX10_named_91 x0 x2 x3 w
      else
      sX10_named_91 x0 x2 x3 w
    else
    sX10_named_91 x0 x2 x3 w
def sX10_named_63 (x0 : Nat) (x2 : Int32) (x3 : Int32) (p0 : Int32) (p1 : Int32) (w : ab_W) : Option (Int32 × ab_W) :=
    if p0 = p1 then
      sX10_named_71 x0 x2 x3 1 w
    else
    sX10_named_71 x0 x2 x3 0 w
def sX10_named_47 (x0 : Nat) (x1 : Int32) (x2 : Int32) (p0 : Int32) (w : ab_W) : Option (Int32 × ab_W) :=
    (ab_getI w 10 x0 7).bind fun v1 =>
    if v1 = 0 then
      sX10_named_63 x0 x2 p0 x1 98 w
    else
    sX10_named_63 x0 x2 p0 x1 100 w
def sX10_named_39 (x0 : Nat) (x1 : Int32) (x2 : Int32) (p0 : Int32) (p1 : Int32) (w : ab_W) : Option (Int32 × ab_W) :=
    if p0 = p1 then
      sX10_named_47 x0 x1 x2 1 w
    else
    sX10_named_47 x0 x1 x2 0 w
def sX10_named_23 (x0 : Nat) (x1 : Int32) (p0 : Int32) (w : ab_W) : Option (Int32 × ab_W) :=
    (ab_getI w 10 x0 7).bind fun v1 =>
    if v1 = 0 then
      sX10_named_39 x0 x1 p0 x1 104 w
    else
    sX10_named_39 x0 x1 p0 x1 102 w
def sX10_named_15 (x0 : Nat) (x1 : Int32) (p0 : Int32) (p1 : Int32) (w : ab_W) : Option (Int32 × ab_W) :=
    if p0 = p1 then
      sX10_named_23 x0 x1 1 w
    else
    sX10_named_23 x0 x1 0 w
def sX10_named (x0 : Nat) (x1 : Int32) (w : ab_W) : Option (Int32 × ab_W) :=
  if ab_is w 10 x0 = true then
    (ab_getI w 10 x0 7).bind fun v1 =>
    if v1 = 0 then
      sX10_named_15 x0 x1 x1 119 w
    else
    sX10_named_15 x0 x1 x1 111 w
  else none
def sX10_factor_148 (f_X10_factor : Nat → ab_W → Option (Int32 × ab_W)) (f_X10_whole : Nat → ab_W → Option (Int32 × ab_W)) (x0 : Nat) (w : ab_W) : Option (Int32 × ab_W) :=
    ab_b2 (sX10_fails x0 w) fun v1 w2 =>
    some (v1, w2)
def sX10_factor_89 (f_X10_factor : Nat → ab_W → Option (Int32 × ab_W)) (f_X10_whole : Nat → ab_W → Option (Int32 × ab_W)) (x0 : Nat) (x1 : Int32) (p0 : Int32) (w : ab_W) : Option (Int32 × ab_W) :=
    (ab_getI w 10 x0 10).bind fun v1 =>
    (ab_putI w 10 x0 10 (v1 - 1)).bind fun w2 =>
    if x1 = 33 then
      if p0 = 0 then
        some (1, w2)
      else
      some (0, w2)
    else
    (ab_getI w2 10 x0 14).bind fun v3 =>
    if v3 = 0 then
      sX10_factor_148 f_X10_factor f_X10_whole x0 w2
    else
    (ab_getI w2 10 x0 8).bind fun v4 =>
    ab_b2 (sX10_byteAt x0 v4 w2) fun v5 w6 =>
    if v5 = 41 then
      (ab_getI w6 10 x0 8).bind fun v7 =>
      (ab_putI w6 10 x0 8 (v7 + 1)).bind fun w8 =>
      some (p0, w8)
    else
    sX10_factor_148 f_X10_factor f_X10_whole x0 w6
def sX10_factor_39 (f_X10_factor : Nat → ab_W → Option (Int32 × ab_W)) (f_X10_whole : Nat → ab_W → Option (Int32 × ab_W)) (x0 : Nat) (x1 : Int32) (w : ab_W) : Option (Int32 × ab_W) :=
    (ab_getI w 10 x0 10).bind fun v1 =>
    if v1 = 5 then
      ab_b2 (sX10_fails x0 w) fun v2 w3 =>
      some (v2, w3)
    else
    (ab_getI w 10 x0 10).bind fun v4 =>
    (ab_putI w 10 x0 10 (v4 + 1)).bind fun w5 =>
    (ab_getI w5 10 x0 8).bind fun v6 =>
    (ab_putI w5 10 x0 8 (v6 + 1)).bind fun w7 =>
    if x1 = 33 then
      ab_b2 (f_X10_factor x0 w7) fun v8 w9 =>
      sX10_factor_89 f_X10_factor f_X10_whole x0 x1 v8 w9
    else
    ab_b2 (f_X10_whole x0 w7) fun v10 w11 =>
    sX10_factor_89 f_X10_factor f_X10_whole x0 x1 v10 w11
def bX10_factor (f_X10_factor : Nat → ab_W → Option (Int32 × ab_W)) (f_X10_whole : Nat → ab_W → Option (Int32 × ab_W)) (x0 : Nat) (w : ab_W) : Option (Int32 × ab_W) :=
  if ab_is w 10 x0 = true then
    (ab_getI w 10 x0 8).bind fun v1 =>
    ab_b2 (sX10_byteAt x0 v1 w) fun v2 w3 =>
    ab_b2 (sX10_isDigit v2 w3) fun v4 w5 =>
    if v4 = 0 then
      if v2 = 33 then
        sX10_factor_39 f_X10_factor f_X10_whole x0 v2 w5
      else
      if v2 = 40 then
        sX10_factor_39 f_X10_factor f_X10_whole x0 v2 w5
      else
      ab_b2 (sX10_named x0 v2 w5) fun v6 w7 =>
      some (v6, w7)
    else
    ab_b2 (sX10_number x0 w5) fun v8 w9 =>
    some (v8, w9)
  else none
def sX10_product_110 (f_X10_factor : Nat → ab_W → Option (Int32 × ab_W)) (k5 : Nat → Int32 → ab_W → Option (Int32 × ab_W)) (x0 : Nat) (p0 : Int32) (w : ab_W) : Option (Int32 × ab_W) :=
    k5 x0 p0 w
def sX10_product_51 (f_X10_factor : Nat → ab_W → Option (Int32 × ab_W)) (k5 : Nat → Int32 → ab_W → Option (Int32 × ab_W)) (x0 : Nat) (x1 : Int32) (w : ab_W) : Option (Int32 × ab_W) :=
    (ab_getI w 10 x0 8).bind fun v1 =>
    ab_b2 (sX10_byteAt x0 v1 w) fun v2 w3 =>
    (ab_getI w3 10 x0 8).bind fun v4 =>
    (ab_putI w3 10 x0 8 (v4 + 1)).bind fun w5 =>
    ab_b2 (f_X10_factor x0 w5) fun v6 w7 =>
    if v2 = 42 then
      sX10_product_110 f_X10_factor k5 x0 (x1 * v6) w7
    else
    if v6 = 0 then
      sX10_product_110 f_X10_factor k5 x0 0 w7
    else
    if v2 = 47 then
      (ab_div x1 v6).bind fun v8 =>
      sX10_product_110 f_X10_factor k5 x0 v8 w7
    else
    (ab_rem x1 v6).bind fun v9 =>
    sX10_product_110 f_X10_factor k5 x0 v9 w7
def sX10_product_5 (f_X10_factor : Nat → ab_W → Option (Int32 × ab_W)) : Nat → Nat → Int32 → ab_W → Option (Int32 × ab_W)
  | 0, _, _, _ => none
  | n + 1, x0, x1, w =>
    (ab_getI w 10 x0 14).bind fun v1 =>
    if v1 = 0 then
      some (x1, w)
    else
    (ab_getI w 10 x0 8).bind fun v2 =>
    ab_b2 (sX10_byteAt x0 v2 w) fun v3 w4 =>
    if v3 = 42 then
      sX10_product_51 f_X10_factor (sX10_product_5 f_X10_factor n) x0 x1 w4
    else
    (ab_getI w4 10 x0 8).bind fun v5 =>
    ab_b2 (sX10_byteAt x0 v5 w4) fun v6 w7 =>
    if v6 = 47 then
      sX10_product_51 f_X10_factor (sX10_product_5 f_X10_factor n) x0 x1 w7
    else
    (ab_getI w7 10 x0 8).bind fun v8 =>
    ab_b2 (sX10_byteAt x0 v8 w7) fun v9 w10 =>
    if v9 = 37 then
      sX10_product_51 f_X10_factor (sX10_product_5 f_X10_factor n) x0 x1 w10
    else
    some (x1, w10)
def bX10_product (f_X10_factor : Nat → ab_W → Option (Int32 × ab_W)) (x0 : Nat) (w : ab_W) : Option (Int32 × ab_W) :=
  if ab_is w 10 x0 = true then
    ab_b2 (f_X10_factor x0 w) fun v1 w2 =>
    sX10_product_5 f_X10_factor 1000 x0 v1 w2
  else none
def sX10_sum_77 (f_X10_product : Nat → ab_W → Option (Int32 × ab_W)) (k5 : Nat → Int32 → ab_W → Option (Int32 × ab_W)) (x0 : Nat) (p0 : Int32) (w : ab_W) : Option (Int32 × ab_W) :=
    k5 x0 p0 w
def sX10_sum_38 (f_X10_product : Nat → ab_W → Option (Int32 × ab_W)) (k5 : Nat → Int32 → ab_W → Option (Int32 × ab_W)) (x0 : Nat) (x1 : Int32) (w : ab_W) : Option (Int32 × ab_W) :=
    (ab_getI w 10 x0 8).bind fun v1 =>
    ab_b2 (sX10_byteAt x0 v1 w) fun v2 w3 =>
    (ab_getI w3 10 x0 8).bind fun v4 =>
    (ab_putI w3 10 x0 8 (v4 + 1)).bind fun w5 =>
    ab_b2 (f_X10_product x0 w5) fun v6 w7 =>
    if v2 = 43 then
      sX10_sum_77 f_X10_product k5 x0 (x1 + v6) w7
    else
    sX10_sum_77 f_X10_product k5 x0 (x1 - v6) w7
def sX10_sum_5 (f_X10_product : Nat → ab_W → Option (Int32 × ab_W)) : Nat → Nat → Int32 → ab_W → Option (Int32 × ab_W)
  | 0, _, _, _ => none
  | n + 1, x0, x1, w =>
    (ab_getI w 10 x0 14).bind fun v1 =>
    if v1 = 0 then
      some (x1, w)
    else
    (ab_getI w 10 x0 8).bind fun v2 =>
    ab_b2 (sX10_byteAt x0 v2 w) fun v3 w4 =>
    if v3 = 43 then
      sX10_sum_38 f_X10_product (sX10_sum_5 f_X10_product n) x0 x1 w4
    else
    (ab_getI w4 10 x0 8).bind fun v5 =>
    ab_b2 (sX10_byteAt x0 v5 w4) fun v6 w7 =>
    if v6 = 45 then
      sX10_sum_38 f_X10_product (sX10_sum_5 f_X10_product n) x0 x1 w7
    else
    some (x1, w7)
def bX10_sum (f_X10_product : Nat → ab_W → Option (Int32 × ab_W)) (x0 : Nat) (w : ab_W) : Option (Int32 × ab_W) :=
  if ab_is w 10 x0 = true then
    ab_b2 (f_X10_product x0 w) fun v1 w2 =>
    sX10_sum_5 f_X10_product 1000 x0 v1 w2
  else none
def sX10_compared_108 (f_X10_sum : Nat → ab_W → Option (Int32 × ab_W)) (p0 : Int32) (w : ab_W) : Option (Int32 × ab_W) :=
    if p0 = 0 then
      some (0, w)
    else
    some (1, w)
def sX10_compared_45 (f_X10_sum : Nat → ab_W → Option (Int32 × ab_W)) (x0 : Nat) (x1 : Int32) (x2 : Int32) (w : ab_W) : Option (Int32 × ab_W) :=
    (ab_getI w 10 x0 8).bind fun v1 =>
    (ab_putI w 10 x0 8 (v1 + 1)).bind fun w2 =>
    ab_b2 (f_X10_sum x0 w2) fun v3 w4 =>
    if x2 = 60 then
      if x1 < v3 then
        sX10_compared_108 f_X10_sum 1 w4
      else
      sX10_compared_108 f_X10_sum 0 w4
    else
    if x2 = 61 then
      if x1 = v3 then
        sX10_compared_108 f_X10_sum 1 w4
      else
      sX10_compared_108 f_X10_sum 0 w4
    else
    if v3 < x1 then
      sX10_compared_108 f_X10_sum 1 w4
    else
    sX10_compared_108 f_X10_sum 0 w4
def sX10_compared_24 (f_X10_sum : Nat → ab_W → Option (Int32 × ab_W)) (x0 : Nat) (x1 : Int32) (p0 : Int32) (w : ab_W) : Option (Int32 × ab_W) :=
    if p0 = 60 then
      sX10_compared_45 f_X10_sum x0 x1 p0 w
    else
    if p0 = 61 then
      sX10_compared_45 f_X10_sum x0 x1 p0 w
    else
    if p0 = 62 then
      sX10_compared_45 f_X10_sum x0 x1 p0 w
    else
    some (x1, w)
def bX10_compared (f_X10_sum : Nat → ab_W → Option (Int32 × ab_W)) (x0 : Nat) (w : ab_W) : Option (Int32 × ab_W) :=
  if ab_is w 10 x0 = true then
    ab_b2 (f_X10_sum x0 w) fun v1 w2 =>
    (ab_getI w2 10 x0 14).bind fun v3 =>
    if v3 = 0 then
      sX10_compared_24 f_X10_sum x0 v1 (-1) w2
    else
    (ab_getI w2 10 x0 8).bind fun v4 =>
    ab_b2 (sX10_byteAt x0 v4 w2) fun v5 w6 =>
    sX10_compared_24 f_X10_sum x0 v1 v5 w6
  else none
def sX10_both_53 (f_X10_compared : Nat → ab_W → Option (Int32 × ab_W)) (k5 : Nat → Int32 → ab_W → Option (Int32 × ab_W)) (x0 : Nat) (p0 : Int32) (w : ab_W) : Option (Int32 × ab_W) :=
    k5 x0 p0 w
def sX10_both_52 (f_X10_compared : Nat → ab_W → Option (Int32 × ab_W)) (k5 : Nat → Int32 → ab_W → Option (Int32 × ab_W)) (x0 : Nat) (w : ab_W) : Option (Int32 × ab_W) :=
    sX10_both_53 f_X10_compared k5 x0 0 w
def sX10_both_5 (f_X10_compared : Nat → ab_W → Option (Int32 × ab_W)) : Nat → Nat → Int32 → ab_W → Option (Int32 × ab_W)
  | 0, _, _, _ => none
  | n + 1, x0, x1, w =>
    (ab_getI w 10 x0 14).bind fun v1 =>
    if v1 = 0 then
      some (x1, w)
    else
    (ab_getI w 10 x0 8).bind fun v2 =>
    ab_b2 (sX10_byteAt x0 v2 w) fun v3 w4 =>
    if v3 = 38 then
      (ab_getI w4 10 x0 8).bind fun v5 =>
      (ab_putI w4 10 x0 8 (v5 + 1)).bind fun w6 =>
      ab_b2 (f_X10_compared x0 w6) fun v7 w8 =>
      if x1 = 0 then
        sX10_both_52 f_X10_compared (sX10_both_5 f_X10_compared n) x0 w8
      else
      if v7 = 0 then
        sX10_both_52 f_X10_compared (sX10_both_5 f_X10_compared n) x0 w8
      else
      sX10_both_53 f_X10_compared (sX10_both_5 f_X10_compared n) x0 1 w8
    else
    some (x1, w4)
def bX10_both (f_X10_compared : Nat → ab_W → Option (Int32 × ab_W)) (x0 : Nat) (w : ab_W) : Option (Int32 × ab_W) :=
  if ab_is w 10 x0 = true then
    ab_b2 (f_X10_compared x0 w) fun v1 w2 =>
    sX10_both_5 f_X10_compared 1000 x0 v1 w2
  else none
def sX10_whole_53 (f_X10_both : Nat → ab_W → Option (Int32 × ab_W)) (k5 : Nat → Int32 → ab_W → Option (Int32 × ab_W)) (x0 : Nat) (p0 : Int32) (w : ab_W) : Option (Int32 × ab_W) :=
    k5 x0 p0 w
def sX10_whole_48 (f_X10_both : Nat → ab_W → Option (Int32 × ab_W)) (k5 : Nat → Int32 → ab_W → Option (Int32 × ab_W)) (x0 : Nat) (w : ab_W) : Option (Int32 × ab_W) :=
    sX10_whole_53 f_X10_both k5 x0 1 w
def sX10_whole_5 (f_X10_both : Nat → ab_W → Option (Int32 × ab_W)) : Nat → Nat → Int32 → ab_W → Option (Int32 × ab_W)
  | 0, _, _, _ => none
  | n + 1, x0, x1, w =>
    (ab_getI w 10 x0 14).bind fun v1 =>
    if v1 = 0 then
      some (x1, w)
    else
    (ab_getI w 10 x0 8).bind fun v2 =>
    ab_b2 (sX10_byteAt x0 v2 w) fun v3 w4 =>
    if v3 = 124 then
      (ab_getI w4 10 x0 8).bind fun v5 =>
      (ab_putI w4 10 x0 8 (v5 + 1)).bind fun w6 =>
      ab_b2 (f_X10_both x0 w6) fun v7 w8 =>
      if x1 = 0 then
        if v7 = 0 then
          sX10_whole_53 f_X10_both (sX10_whole_5 f_X10_both n) x0 0 w8
        else
        sX10_whole_48 f_X10_both (sX10_whole_5 f_X10_both n) x0 w8
      else
      sX10_whole_48 f_X10_both (sX10_whole_5 f_X10_both n) x0 w8
    else
    some (x1, w4)
def bX10_whole (f_X10_both : Nat → ab_W → Option (Int32 × ab_W)) (x0 : Nat) (w : ab_W) : Option (Int32 × ab_W) :=
  if ab_is w 10 x0 = true then
    ab_b2 (f_X10_both x0 w) fun v1 w2 =>
    sX10_whole_5 f_X10_both 1000 x0 v1 w2
  else none
def gpX10_factor : Nat → (Nat → ab_W → Option (Int32 × ab_W)) × (Nat → ab_W → Option (Int32 × ab_W)) × (Nat → ab_W → Option (Int32 × ab_W)) × (Nat → ab_W → Option (Int32 × ab_W)) × (Nat → ab_W → Option (Int32 × ab_W)) × (Nat → ab_W → Option (Int32 × ab_W))
  | 0 => (fun _ _ => none, fun _ _ => none, fun _ _ => none, fun _ _ => none, fun _ _ => none, fun _ _ => none)
  | n + 1 => (bX10_factor ((gpX10_factor n).1) ((gpX10_factor n).2.2.2.2.2), bX10_product ((gpX10_factor n).1), bX10_sum ((gpX10_factor n).2.1), bX10_compared ((gpX10_factor n).2.2.1), bX10_both ((gpX10_factor n).2.2.2.1), bX10_whole ((gpX10_factor n).2.2.2.2.1))
def sX10_factor (n : Nat) : Nat → ab_W → Option (Int32 × ab_W) := (gpX10_factor n).1
def sX10_product (n : Nat) : Nat → ab_W → Option (Int32 × ab_W) := (gpX10_factor n).2.1
def sX10_sum (n : Nat) : Nat → ab_W → Option (Int32 × ab_W) := (gpX10_factor n).2.2.1
def sX10_compared (n : Nat) : Nat → ab_W → Option (Int32 × ab_W) := (gpX10_factor n).2.2.2.1
def sX10_both (n : Nat) : Nat → ab_W → Option (Int32 × ab_W) := (gpX10_factor n).2.2.2.2.1
def sX10_whole (n : Nat) : Nat → ab_W → Option (Int32 × ab_W) := (gpX10_factor n).2.2.2.2.2
theorem sX10_factor_s (n : Nat) : sX10_factor (n + 1) = bX10_factor (sX10_factor n) (sX10_whole n) := rfl
theorem sX10_product_s (n : Nat) : sX10_product (n + 1) = bX10_product (sX10_factor n) := rfl
theorem sX10_sum_s (n : Nat) : sX10_sum (n + 1) = bX10_sum (sX10_product n) := rfl
theorem sX10_compared_s (n : Nat) : sX10_compared (n + 1) = bX10_compared (sX10_sum n) := rfl
theorem sX10_both_s (n : Nat) : sX10_both (n + 1) = bX10_both (sX10_compared n) := rfl
theorem sX10_whole_s (n : Nat) : sX10_whole (n + 1) = bX10_whole (sX10_both n) := rfl
def sX10_walks_78 (x5 : Int32) (p0 : Nat) (p1 : Int32) (w : ab_W) : Option (Int32 × ab_W) :=
    (ab_putZ w 10 p0 14 p1).bind fun w1 =>
    some (x5, w1)
def sX10_walks_77 (x5 : Int32) (p0 : Nat) (w : ab_W) : Option (Int32 × ab_W) :=
    sX10_walks_78 x5 p0 0 w
def sX10_walks (x0 : Nat) (x1 : Int32) (x2 : Int32) (x3 : Int32) (x4 : Int32) (w : ab_W) : Option (Int32 × ab_W) :=
  if ab_is w 10 x0 = true then
    (ab_putI w 10 x0 7 x1).bind fun w1 =>
    (ab_putI w1 10 x0 8 0).bind fun w2 =>
    (ab_getR w2 10 x0 0).bind fun v3 =>
    (ab_ald w2 v3 (5 + x1)).bind fun v4 =>
    (ab_putI w2 10 x0 9 v4).bind fun w5 =>
    (ab_putI w5 10 x0 10 0).bind fun w6 =>
    (ab_putZ w6 10 x0 14 1).bind fun w7 =>
    (ab_putI w7 10 x0 11 x2).bind fun w8 =>
    (ab_putI w8 10 x0 12 x3).bind fun w9 =>
    (ab_putI w9 10 x0 13 x4).bind fun w10 =>
    ab_b2 (sX10_whole 100 x0 w10) fun v11 w12 =>
    (ab_getI w12 10 x0 14).bind fun v13 =>
    if v13 = 0 then
      sX10_walks_77 v11 x0 w12
    else
    (ab_getI w12 10 x0 8).bind fun v14 =>
    (ab_getI w12 10 x0 9).bind fun v15 =>
    if v14 = v15 then
      sX10_walks_78 v11 x0 1 w12
    else
    sX10_walks_77 v11 x0 w12
  else none
def sX10_lawOf_59 (x5 : Int32) (p0 : Int32) (w : ab_W) : Option (Int32 × ab_W) :=
    ab_b2 (sX10_held p0 0 x5 w) fun v1 w2 =>
    some (v1, w2)
def sX10_lawOf_12 (x0 : Nat) (x1 : Int32) (x2 : Int32) (x3 : Int32) (x4 : Int32) (p0 : Int32) (w : ab_W) : Option (Int32 × ab_W) :=
    (ab_getR w 10 x0 0).bind fun v1 =>
    (ab_ald w v1 (5 + x1)).bind fun v2 =>
    if v2 < 0 then
      if x1 = 0 then
        sX10_lawOf_59 p0 ((9 - x2) + x4) w
      else
      (ab_div x3 10).bind fun v3 =>
      sX10_lawOf_59 p0 v3 w
    else
    ab_b2 (sX10_walks x0 x1 x2 x3 x4 w) fun v4 w5 =>
    ab_b2 (sX10_held v4 0 p0 w5) fun v6 w7 =>
    some (v6, w7)
def sX10_lawOf (x0 : Nat) (x1 : Int32) (x2 : Int32) (x3 : Int32) (x4 : Int32) (w : ab_W) : Option (Int32 × ab_W) :=
  if ab_is w 10 x0 = true then
    if x1 = 0 then
      sX10_lawOf_12 x0 x1 x2 x3 x4 99 w
    else
    sX10_lawOf_12 x0 x1 x2 x3 x4 999 w
  else none
def sX10_law (x0 : Nat) (x1 : Int32) (x2 : Int32) (x3 : Int32) (x4 : Int32) (w : ab_W) : Option (Int32 × ab_W) :=
  if ab_is w 10 x0 = true then
    ab_b2 (sX10_in x1 0 1 w) fun v1 w2 =>
    if v1 = 0 then
      ab_b2 (sX10_errs x0 (-1000000001) w2) fun v3 w4 =>
      some (v3, w4)
    else
    ab_b2 (sX10_lawOf x0 x1 x2 x3 x4 w2) fun v5 w6 =>
    some (v5, w6)
  else none
def sX10_feed_40 : Nat → Nat → Int64 → Int32 → Int32 → ab_W → Option (Int32 × ab_W)
  | 0, _, _, _, _, _ => none
  | n + 1, x0, x1, x3, x4, w =>
    if x4 < x3 then
      (ab_getR w 10 x0 0).bind fun v1 =>
      (ab_getR w 10 x0 0).bind fun v2 =>
      (ab_ald w v2 3).bind fun v3 =>
      (ab_ast w v1 (56 + v3) ((((x1 >>> (((8 * x4) : Int32).toInt64 &&& 63)) &&& (255 : Int64)) : Int64).toInt32)).bind fun w4 =>
      (ab_getR w4 10 x0 0).bind fun v5 =>
      (ab_ald w4 v5 3).bind fun v6 =>
      (ab_ast w4 v5 3 (v6 + 1)).bind fun w7 =>
      sX10_feed_40 n x0 x1 x3 (x4 + 1) w7
    else
    (ab_getR w 10 x0 0).bind fun v8 =>
    (ab_ald w v8 3).bind fun v9 =>
    some (v9, w)
def sX10_feed (x0 : Nat) (x1 : Int64) (x3 : Int32) (w : ab_W) : Option (Int32 × ab_W) :=
  if ab_is w 10 x0 = true then
    ab_b2 (sX10_in x3 1 8 w) fun v1 w2 =>
    if v1 = 0 then
      ab_b2 (sX10_errs x0 (-1000000001) w2) fun v3 w4 =>
      some (v3, w4)
    else
    (ab_getR w2 10 x0 0).bind fun v5 =>
    (ab_ald w2 v5 3).bind fun v6 =>
    if 50 < (v6 + x3) then
      ab_b2 (sX10_errs x0 (-1000000004) w2) fun v7 w8 =>
      some (v7, w8)
    else
    sX10_feed_40 1000 x0 x1 x3 0 w2
  else none
def sX10_text_128 (x0 : Nat) (x3 : Int32) (x4 : Int32) (w : ab_W) : Option (Int32 × ab_W) :=
    (ab_getR w 10 x0 0).bind fun v1 =>
    (ab_ast w v1 3 0).bind fun w2 =>
    if x3 = 0 then
      some (((-10) - x4), w2)
    else
    some (1, w2)
def sX10_text_105 (x0 : Nat) (p0 : Int32) (w : ab_W) : Option (Int32 × ab_W) :=
    (ab_getI w 10 x0 8).bind fun v1 =>
    if p0 = 0 then
      (ab_getR w 10 x0 3).bind fun v2 =>
      (ab_getR w 10 x0 0).bind fun v3 =>
      (sX10_moveAll x0 v2 v3 w).bind fun w4 =>
      sX10_text_128 x0 p0 v1 w4
    else
    sX10_text_128 x0 p0 v1 w
def sX10_text_104 (x0 : Nat) (w : ab_W) : Option (Int32 × ab_W) :=
    sX10_text_105 x0 0 w
def sX10_text_30 : Nat → Nat → Int32 → Int32 → ab_W → Option (Int32 × ab_W)
  | 0, _, _, _, _ => none
  | n + 1, x0, x1, x2, w =>
    if x2 < 50 then
      (ab_getR w 10 x0 0).bind fun v1 =>
      (ab_getR w 10 x0 0).bind fun v2 =>
      (ab_ald w v2 (56 + x2)).bind fun v3 =>
      (ab_ast w v1 ((126 + (50 * x1)) + x2) v3).bind fun w4 =>
      sX10_text_30 n x0 x1 (x2 + 1) w4
    else
    (ab_getR w 10 x0 0).bind fun v5 =>
    (ab_getR w 10 x0 0).bind fun v6 =>
    (ab_ald w v6 3).bind fun v7 =>
    (ab_ast w v5 (5 + x1) v7).bind fun w8 =>
    ab_b2 (sX10_walks x0 x1 1 1 1 w8) fun v9 w10 =>
    (ab_getI w10 10 x0 14).bind fun v11 =>
    if v11 = 0 then
      sX10_text_104 x0 w10
    else
    if v9 = v9 then
      sX10_text_105 x0 1 w10
    else
    sX10_text_104 x0 w10
def sX10_text (x0 : Nat) (x1 : Int32) (w : ab_W) : Option (Int32 × ab_W) :=
  if ab_is w 10 x0 = true then
    ab_b2 (sX10_in x1 0 1 w) fun v1 w2 =>
    if v1 = 0 then
      ab_b2 (sX10_errs x0 (-1000000001) w2) fun v3 w4 =>
      some (v3, w4)
    else
    (ab_getR w2 10 x0 0).bind fun v5 =>
    (ab_getR w2 10 x0 3).bind fun v6 =>
    (sX10_moveAll x0 v5 v6 w2).bind fun w7 =>
    sX10_text_30 1000 x0 x1 0 w7
  else none
def sX10_goes (x0 : Nat) (x1 : Int32) (w : ab_W) : Option (Int32 × ab_W) :=
  if ab_is w 10 x0 = true then
    ab_b2 (sX10_its x0 x1 3 w) fun v1 w2 =>
    ab_b2 (sX10_wide x0 v1 w2) fun v3 w4 =>
    ab_b2 (sX10_its x0 x1 3 w4) fun v5 w6 =>
    ab_b2 (sX10_thick x0 v5 w6) fun v7 w8 =>
    (ab_getR w8 10 x0 0).bind fun v9 =>
    (ab_ald w8 v9 7).bind fun v10 =>
    ab_b2 (sX10_lawOf x0 0 v3 v7 v10 w8) fun v11 w12 =>
    ab_b2 (sX10_its x0 x1 0 w12) fun v13 w14 =>
    if v13 = 1 then
      some ((2 * v11), w14)
    else
    if v13 = 2 then
      some ((v11 + v3), w14)
    else
    if v13 = 3 then
      if v7 < v11 then
        some ((v11 - v7), w14)
      else
      some (0, w14)
    else
    if v13 = 4 then
      some ((2 * v11), w14)
    else
    if v13 = 5 then
      (ab_getR w14 10 x0 0).bind fun v15 =>
      (ab_ald w14 v15 0).bind fun v16 =>
      (ab_rem v16 5).bind fun v17 =>
      if v17 = 0 then
        some (0, w14)
      else
      some ((v11 + v3), w14)
    else
    if v13 = 6 then
      (ab_div v11 2).bind fun v18 =>
      some (v18, w14)
    else
    some (v11, w14)
  else none
def sX10_shape_16 (x0 : Nat) (w : ab_W) : Option (Int32 × ab_W) :=
    ab_b2 (sX10_errs x0 (-1000000001) w) fun v1 w2 =>
    some (v1, w2)
def sX10_shape (x0 : Nat) (x1 : Int32) (x2 : Int32) (w : ab_W) : Option (Int32 × ab_W) :=
  if ab_is w 10 x0 = true then
    ab_b2 (sX10_isSet x1 w) fun v1 w2 =>
    if v1 = 0 then
      sX10_shape_16 x0 w2
    else
    ab_b2 (sX10_in x2 0 1 w2) fun v3 w4 =>
    if v3 = 0 then
      sX10_shape_16 x0 w4
    else
    if x2 = 0 then
      ab_b2 (sX10_wide x0 x1 w4) fun v5 w6 =>
      some (v5, w6)
    else
    ab_b2 (sX10_thick x0 x1 w4) fun v7 w8 =>
    some (v7, w8)
  else none
def sX10_areSides (x0 : Int32) (x1 : Int32) (w : ab_W) : Option (Int32 × ab_W) :=
    ab_b2 (sX10_in x0 1 8 w) fun v1 w2 =>
    if v1 = 0 then
      (ab_bool 0).bind fun y => some (y, w2)
    else
    ab_b2 (sX10_in x1 1 8 w2) fun v3 w4 =>
    if v3 = 0 then
      (ab_bool 0).bind fun y => some (y, w4)
    else
    (ab_bool 1).bind fun y => some (y, w4)
def sX10_least_66 (k20 : Nat → Int32 → Int32 → Int32 → Int32 → ab_W → Option (Int32 × ab_W)) (x0 : Nat) (x1 : Int32) (x2 : Int32) (x3 : Int32) (x4 : Int32) (w : ab_W) : Option (Int32 × ab_W) :=
    k20 x0 x1 x2 x3 (x4 + 1) w
def sX10_least_43 (k20 : Nat → Int32 → Int32 → Int32 → Int32 → ab_W → Option (Int32 × ab_W)) (x0 : Nat) (x1 : Int32) (x2 : Int32) (x3 : Int32) (x4 : Int32) (w : ab_W) : Option (Int32 × ab_W) :=
    ab_b2 (sX10_wide x0 x4 w) fun v1 w2 =>
    if x1 < v1 then
      sX10_least_66 k20 x0 x1 x2 x3 x4 w2
    else
    ab_b2 (sX10_thick x0 x4 w2) fun v3 w4 =>
    if x2 < v3 then
      sX10_least_66 k20 x0 x1 x2 x3 x4 w4
    else
    sX10_least_66 k20 x0 x1 x2 x4 x4 w4
def sX10_least_20 : Nat → Nat → Int32 → Int32 → Int32 → Int32 → ab_W → Option (Int32 × ab_W)
  | 0, _, _, _, _, _, _ => none
  | n + 1, x0, x1, x2, x3, x4, w =>
    if 127 < x4 then
      if x3 < 0 then
        ab_b2 (sX10_errs x0 (-1000000002) w) fun v1 w2 =>
        some (v1, w2)
      else
      some (x3, w)
    else
    if x3 < 0 then
      sX10_least_43 (sX10_least_20 n) x0 x1 x2 x3 x4 w
    else
    ab_b2 (sX10_bits x4 w) fun v3 w4 =>
    ab_b2 (sX10_bits x3 w4) fun v5 w6 =>
    if v3 < v5 then
      sX10_least_43 (sX10_least_20 n) x0 x1 x2 x3 x4 w6
    else
    sX10_least_66 (sX10_least_20 n) x0 x1 x2 x3 x4 w6
def sX10_least (x0 : Nat) (x1 : Int32) (x2 : Int32) (w : ab_W) : Option (Int32 × ab_W) :=
  if ab_is w 10 x0 = true then
    ab_b2 (sX10_areSides x1 x2 w) fun v1 w2 =>
    if v1 = 0 then
      ab_b2 (sX10_errs x0 (-1000000001) w2) fun v3 w4 =>
      some (v3, w4)
    else
    sX10_least_20 1000 x0 x1 x2 (-1) 0 w2
  else none
def sX10_shapes_17 (x0 : Nat) (w : ab_W) : Option (Int32 × ab_W) :=
    ab_b2 (sX10_errs x0 (-1000000001) w) fun v1 w2 =>
    some (v1, w2)
def sX10_shapes_118 (x3 : Int32) (x4 : Int32) (x5 : Int32) (w : ab_W) : Option (Int32 × ab_W) :=
    if x3 = 0 then
      some (x4, w)
    else
    some (x5, w)
def sX10_shapes_93 (k34 : Nat → Int32 → Int32 → Int32 → Int32 → Int32 → Int32 → ab_W → Option (Int32 × ab_W)) (x0 : Nat) (x1 : Int32) (x2 : Int32) (x3 : Int32) (x4 : Int32) (x6 : Int32) (p0 : Int32) (w : ab_W) : Option (Int32 × ab_W) :=
    k34 x0 x1 x2 x3 x4 p0 (x6 + (-1)) w
def sX10_shapes_78 (k34 : Nat → Int32 → Int32 → Int32 → Int32 → Int32 → Int32 → ab_W → Option (Int32 × ab_W)) (x0 : Nat) (x1 : Int32) (x2 : Int32) (x3 : Int32) (x5 : Int32) (x6 : Int32) (x7 : Int32) (p0 : Int32) (p1 : Int32) (w : ab_W) : Option (Int32 × ab_W) :=
    if x7 = 0 then
      sX10_shapes_93 k34 x0 x1 x2 x3 (p0 + p1) x6 x5 w
    else
    sX10_shapes_93 k34 x0 x1 x2 x3 (p0 + p1) x6 x6 w
def sX10_shapes_64 (k34 : Nat → Int32 → Int32 → Int32 → Int32 → Int32 → Int32 → ab_W → Option (Int32 × ab_W)) (x0 : Nat) (x1 : Int32) (x2 : Int32) (x3 : Int32) (x4 : Int32) (x5 : Int32) (x6 : Int32) (p0 : Int32) (w : ab_W) : Option (Int32 × ab_W) :=
    if p0 = 0 then
      sX10_shapes_78 k34 x0 x1 x2 x3 x5 x6 p0 x4 0 w
    else
    sX10_shapes_78 k34 x0 x1 x2 x3 x5 x6 p0 x4 1 w
def sX10_shapes_63 (k34 : Nat → Int32 → Int32 → Int32 → Int32 → Int32 → Int32 → ab_W → Option (Int32 × ab_W)) (x0 : Nat) (x1 : Int32) (x2 : Int32) (x3 : Int32) (x4 : Int32) (x5 : Int32) (x6 : Int32) (w : ab_W) : Option (Int32 × ab_W) :=
    sX10_shapes_64 k34 x0 x1 x2 x3 x4 x5 x6 0 w
def sX10_shapes_34 : Nat → Nat → Int32 → Int32 → Int32 → Int32 → Int32 → Int32 → ab_W → Option (Int32 × ab_W)
  | 0, _, _, _, _, _, _, _, _ => none
  | n + 1, x0, x1, x2, x3, x4, x5, x6, w =>
    if x6 < 0 then
      if x3 = 1 then
        if x4 = 0 then
          ab_b2 (sX10_errs x0 (-1000000002) w) fun v1 w2 =>
          some (v1, w2)
        else
        sX10_shapes_118 x3 x4 x5 w
      else
      sX10_shapes_118 x3 x4 x5 w
    else
    ab_b2 (sX10_wide x0 x6 w) fun v3 w4 =>
    if v3 = x1 then
      ab_b2 (sX10_thick x0 x6 w4) fun v5 w6 =>
      if v5 = x2 then
        sX10_shapes_64 (sX10_shapes_34 n) x0 x1 x2 x3 x4 x5 x6 1 w6
      else
      sX10_shapes_63 (sX10_shapes_34 n) x0 x1 x2 x3 x4 x5 x6 w6
    else
    sX10_shapes_63 (sX10_shapes_34 n) x0 x1 x2 x3 x4 x5 x6 w4
def sX10_shapes (x0 : Nat) (x1 : Int32) (x2 : Int32) (x3 : Int32) (w : ab_W) : Option (Int32 × ab_W) :=
  if ab_is w 10 x0 = true then
    ab_b2 (sX10_areSides x1 x2 w) fun v1 w2 =>
    if v1 = 0 then
      sX10_shapes_17 x0 w2
    else
    ab_b2 (sX10_in x3 0 1 w2) fun v3 w4 =>
    if v3 = 0 then
      sX10_shapes_17 x0 w4
    else
    sX10_shapes_34 1000 x0 x1 x2 x3 0 0 127 w4
  else none
def sX10_fold_18 (x0 : Nat) (w : ab_W) : Option (Int32 × ab_W) :=
    ab_b2 (sX10_errs x0 (-1000000001) w) fun v1 w2 =>
    some (v1, w2)
def sX10_fold_59 (x0 : Nat) (w : ab_W) : Option (Int32 × ab_W) :=
    ab_b2 (sX10_errs x0 (-1000000003) w) fun v1 w2 =>
    some (v1, w2)
def sX10_fold (x0 : Nat) (x1 : Int32) (x2 : Int32) (w : ab_W) : Option (Int32 × ab_W) :=
  if ab_is w 10 x0 = true then
    ab_b2 (sX10_isPaper x0 x1 w) fun v1 w2 =>
    if v1 = 0 then
      sX10_fold_18 x0 w2
    else
    ab_b2 (sX10_in x2 0 6 w2) fun v3 w4 =>
    if v3 = 0 then
      sX10_fold_18 x0 w4
    else
    ab_b2 (sX10_its x0 x1 3 w4) fun v5 w6 =>
    ab_b2 (sX10_its x0 x1 4 w6) fun v7 w8 =>
    if v7 = 1 then
      sX10_fold_59 x0 w8
    else
    ab_b2 (sX10_thick x0 (v5 ^^^ (1 <<< (x2 &&& 31))) w8) fun v9 w10 =>
    ab_b2 (sX10_stiff x0 x1 w10) fun v11 w12 =>
    if v11 < v9 then
      sX10_fold_59 x0 w12
    else
    (sX10_gets x0 x1 3 (v5 ^^^ (1 <<< (x2 &&& 31))) w12).bind fun w13 =>
    ab_b2 (sX10_wide x0 (v5 ^^^ (1 <<< (x2 &&& 31))) w13) fun v14 w15 =>
    some (v14, w15)
  else none
def sX10_release_39 (x0 : Nat) (w : ab_W) : Option (Int32 × ab_W) :=
    ab_b2 (sX10_errs x0 (-1000000003) w) fun v1 w2 =>
    some (v1, w2)
def sX10_release (x0 : Nat) (x1 : Int32) (w : ab_W) : Option (Int32 × ab_W) :=
  if ab_is w 10 x0 = true then
    ab_b2 (sX10_isPaper x0 x1 w) fun v1 w2 =>
    if v1 = 0 then
      ab_b2 (sX10_errs x0 (-1000000001) w2) fun v3 w4 =>
      some (v3, w4)
    else
    ab_b2 (sX10_its x0 x1 4 w2) fun v5 w6 =>
    if v5 = 1 then
      sX10_release_39 x0 w6
    else
    ab_b2 (sX10_its x0 x1 3 w6) fun v7 w8 =>
    ab_b2 (sX10_isAlive x0 x1 v7 w8) fun v9 w10 =>
    if v9 = 0 then
      sX10_release_39 x0 w10
    else
    (sX10_gets x0 x1 4 1 w10).bind fun w11 =>
    ab_b2 (sX10_its x0 x1 2 w11) fun v12 w13 =>
    some (v12, w13)
  else none
def sX10_way_15 (x0 : Nat) (w : ab_W) : Option (Int32 × ab_W) :=
    ab_b2 (sX10_errs x0 (-1000000001) w) fun v1 w2 =>
    some (v1, w2)
def sX10_way_165 (x0 : Nat) (x2 : Int32) (w : ab_W) : Option (Int32 × ab_W) :=
    (ab_getR w 10 x0 16).bind fun v1 =>
    (ab_ald w v1 x2).bind fun v2 =>
    if v2 < 0 then
      ab_b2 (sX10_errs x0 (-1000000002) w) fun v3 w4 =>
      some (v3, w4)
    else
    (ab_getR w 10 x0 16).bind fun v5 =>
    (ab_ald w v5 x2).bind fun v6 =>
    some (v6, w)
def sX10_way_153 (k57 : Nat → Int32 → Int32 → Int32 → ab_W → Option (Int32 × ab_W)) (k76 : Nat → Int32 → Int32 → Int32 → Int32 → ab_W → Option (Int32 × ab_W)) (x0 : Nat) (x1 : Int32) (x2 : Int32) (x3 : Int32) (x4 : Int32) (w : ab_W) : Option (Int32 × ab_W) :=
    k76 x0 x1 x2 x3 (x4 + 1) w
def sX10_way_147 (k57 : Nat → Int32 → Int32 → Int32 → ab_W → Option (Int32 × ab_W)) (k76 : Nat → Int32 → Int32 → Int32 → Int32 → ab_W → Option (Int32 × ab_W)) (k86 : Nat → Int32 → Int32 → Int32 → Int32 → Int32 → ab_W → Option (Int32 × ab_W)) (x0 : Nat) (x1 : Int32) (x2 : Int32) (x3 : Int32) (x4 : Int32) (x5 : Int32) (w : ab_W) : Option (Int32 × ab_W) :=
    k86 x0 x1 x2 x3 x4 (x5 + 1) w
def sX10_way_86 (k57 : Nat → Int32 → Int32 → Int32 → ab_W → Option (Int32 × ab_W)) (k76 : Nat → Int32 → Int32 → Int32 → Int32 → ab_W → Option (Int32 × ab_W)) : Nat → Nat → Int32 → Int32 → Int32 → Int32 → Int32 → ab_W → Option (Int32 × ab_W)
  | 0, _, _, _, _, _, _, _ => none
  | n + 1, x0, x1, x2, x3, x4, x5, w =>
    if x5 < 7 then
      (ab_getR w 10 x0 16).bind fun v1 =>
      (ab_ald w v1 x4).bind fun v2 =>
      if v2 = x3 then
        (ab_getR w 10 x0 16).bind fun v3 =>
        (ab_ald w v3 (x4 ^^^ (1 <<< (x5 &&& 31)))).bind fun v4 =>
        if v4 < 0 then
          ab_b2 (sX10_thick x0 (x4 ^^^ (1 <<< (x5 &&& 31))) w) fun v5 w6 =>
          ab_b2 (sX10_stiff x0 x1 w6) fun v7 w8 =>
          if v7 < v5 then
            sX10_way_147 k57 k76 (sX10_way_86 k57 k76 n) x0 x1 x2 x3 x4 x5 w8
          else
          (ab_getR w8 10 x0 16).bind fun v9 =>
          (ab_ast w8 v9 (x4 ^^^ (1 <<< (x5 &&& 31))) (x3 + 1)).bind fun w10 =>
          sX10_way_147 k57 k76 (sX10_way_86 k57 k76 n) x0 x1 x2 x3 x4 x5 w10
        else
        sX10_way_147 k57 k76 (sX10_way_86 k57 k76 n) x0 x1 x2 x3 x4 x5 w
      else
      sX10_way_153 k57 k76 x0 x1 x2 x3 x4 w
    else
    sX10_way_153 k57 k76 x0 x1 x2 x3 x4 w
def sX10_way_76 (k57 : Nat → Int32 → Int32 → Int32 → ab_W → Option (Int32 × ab_W)) : Nat → Nat → Int32 → Int32 → Int32 → Int32 → ab_W → Option (Int32 × ab_W)
  | 0, _, _, _, _, _, _ => none
  | n + 1, x0, x1, x2, x3, x4, w =>
    if 127 < x4 then
      k57 x0 x1 x2 (x3 + 1) w
    else
    sX10_way_86 k57 (sX10_way_76 k57 n) 1000 x0 x1 x2 x3 x4 0 w
def sX10_way_57 : Nat → Nat → Int32 → Int32 → Int32 → ab_W → Option (Int32 × ab_W)
  | 0, _, _, _, _, _ => none
  | n + 1, x0, x1, x2, x3, w =>
    if x3 < 128 then
      (ab_getR w 10 x0 16).bind fun v1 =>
      (ab_ald w v1 x2).bind fun v2 =>
      if v2 < 0 then
        sX10_way_76 (sX10_way_57 n) 1000 x0 x1 x2 x3 0 w
      else
      sX10_way_165 x0 x2 w
    else
    sX10_way_165 x0 x2 w
def sX10_way_24 : Nat → Nat → Int32 → Int32 → Int32 → ab_W → Option (Int32 × ab_W)
  | 0, _, _, _, _, _ => none
  | n + 1, x0, x1, x2, x3, w =>
    if 127 < x3 then
      (ab_getR w 10 x0 16).bind fun v1 =>
      ab_b2 (sX10_its x0 x1 3 w) fun v2 w3 =>
      (ab_ast w3 v1 v2 0).bind fun w4 =>
      sX10_way_57 1000 x0 x1 x2 0 w4
    else
    (ab_getR w 10 x0 16).bind fun v5 =>
    (ab_ast w v5 x3 (-1)).bind fun w6 =>
    sX10_way_24 n x0 x1 x2 (x3 + 1) w6
def sX10_way (x0 : Nat) (x1 : Int32) (x2 : Int32) (w : ab_W) : Option (Int32 × ab_W) :=
  if ab_is w 10 x0 = true then
    ab_b2 (sX10_isPaper x0 x1 w) fun v1 w2 =>
    if v1 = 0 then
      sX10_way_15 x0 w2
    else
    ab_b2 (sX10_isSet x2 w2) fun v3 w4 =>
    if v3 = 0 then
      sX10_way_15 x0 w4
    else
    sX10_way_24 1000 x0 x1 x2 0 w4
  else none
def sX10_open_18 (x0 : Nat) (w : ab_W) : Option (Int32 × ab_W) :=
    ab_b2 (sX10_errs x0 (-1000000001) w) fun v1 w2 =>
    some (v1, w2)
def sX10_open_90 (k38 : Nat → Int32 → Int32 → Int32 → Int32 → ab_W → Option (Int32 × ab_W)) (x0 : Nat) (x2 : Int32) (x3 : Int32) (x4 : Int32) (x5 : Int32) (w : ab_W) : Option (Int32 × ab_W) :=
    k38 x0 x2 x3 x4 (x5 + 1) w
def sX10_open_72 (k38 : Nat → Int32 → Int32 → Int32 → Int32 → ab_W → Option (Int32 × ab_W)) (x0 : Nat) (x2 : Int32) (x3 : Int32) (x4 : Int32) (x5 : Int32) (w : ab_W) : Option (Int32 × ab_W) :=
    ab_b2 (sX10_wide x0 (x3 &&& (x5 ^^^ (-1))) w) fun v1 w2 =>
    if v1 < x2 then
      sX10_open_90 k38 x0 x2 x3 x4 x5 w2
    else
    sX10_open_90 k38 x0 x2 x3 x5 x5 w2
def sX10_open_38 : Nat → Nat → Int32 → Int32 → Int32 → Int32 → ab_W → Option (Int32 × ab_W)
  | 0, _, _, _, _, _, _ => none
  | n + 1, x0, x2, x3, x4, x5, w =>
    if 127 < x5 then
      if x4 < 0 then
        ab_b2 (sX10_errs x0 (-1000000002) w) fun v1 w2 =>
        some (v1, w2)
      else
      some (x4, w)
    else
    if (x5 &&& (x3 ^^^ (-1))) = 0 then
      if x4 < 0 then
        sX10_open_72 (sX10_open_38 n) x0 x2 x3 x4 x5 w
      else
      ab_b2 (sX10_bits x5 w) fun v3 w4 =>
      ab_b2 (sX10_bits x4 w4) fun v5 w6 =>
      if v3 < v5 then
        sX10_open_72 (sX10_open_38 n) x0 x2 x3 x4 x5 w6
      else
      sX10_open_90 (sX10_open_38 n) x0 x2 x3 x4 x5 w6
    else
    sX10_open_90 (sX10_open_38 n) x0 x2 x3 x4 x5 w
def sX10_open (x0 : Nat) (x1 : Int32) (x2 : Int32) (w : ab_W) : Option (Int32 × ab_W) :=
  if ab_is w 10 x0 = true then
    ab_b2 (sX10_isPaper x0 x1 w) fun v1 w2 =>
    if v1 = 0 then
      sX10_open_18 x0 w2
    else
    ab_b2 (sX10_in x2 1 8 w2) fun v3 w4 =>
    if v3 = 0 then
      sX10_open_18 x0 w4
    else
    ab_b2 (sX10_its x0 x1 3 w4) fun v5 w6 =>
    sX10_open_38 1000 x0 x2 v5 (-1) 0 w6
  else none
def sX10_areAlike (x0 : Nat) (x1 : Int32) (x2 : Int32) (w : ab_W) : Option (Int32 × ab_W) :=
  if ab_is w 10 x0 = true then
    ab_b2 (sX10_its x0 x1 3 w) fun v1 w2 =>
    ab_b2 (sX10_its x0 x2 3 w2) fun v3 w4 =>
    if v1 = v3 then
      (ab_bool 0).bind fun y => some (y, w4)
    else
    ab_b2 (sX10_wide x0 v1 w4) fun v5 w6 =>
    ab_b2 (sX10_wide x0 v3 w6) fun v7 w8 =>
    if v5 = v7 then
      ab_b2 (sX10_thick x0 v1 w8) fun v9 w10 =>
      ab_b2 (sX10_thick x0 v3 w10) fun v11 w12 =>
      if v9 = v11 then
        (ab_bool 1).bind fun y => some (y, w12)
      else
      (ab_bool 0).bind fun y => some (y, w12)
    else
    (ab_bool 0).bind fun y => some (y, w8)
  else none
def sX10_alike_103 (x1 : Int32) (x2 : Int32) (x3 : Int32) (w : ab_W) : Option (Int32 × ab_W) :=
    if x1 = 0 then
      some (x2, w)
    else
    some (x3, w)
def sX10_alike_75 (k30 : Nat → Int32 → Int32 → Int32 → Int32 → ab_W → Option (Int32 × ab_W)) (k45 : Nat → Int32 → Int32 → Int32 → Int32 → Int32 → ab_W → Option (Int32 × ab_W)) (x0 : Nat) (x1 : Int32) (x2 : Int32) (x3 : Int32) (x4 : Int32) (x5 : Int32) (w : ab_W) : Option (Int32 × ab_W) :=
    k45 x0 x1 x2 x3 x4 (x5 + (-1)) w
def sX10_alike_45 (k30 : Nat → Int32 → Int32 → Int32 → Int32 → ab_W → Option (Int32 × ab_W)) : Nat → Nat → Int32 → Int32 → Int32 → Int32 → Int32 → ab_W → Option (Int32 × ab_W)
  | 0, _, _, _, _, _, _, _ => none
  | n + 1, x0, x1, x2, x3, x4, x5, w =>
    if x4 < x5 then
      ab_b2 (sX10_areAlike x0 x4 x5 w) fun v1 w2 =>
      if v1 = 0 then
        sX10_alike_75 k30 (sX10_alike_45 k30 n) x0 x1 x2 x3 x4 x5 w2
      else
      sX10_alike_75 k30 (sX10_alike_45 k30 n) x0 x1 (x2 + 1) ((10 * x4) + x5) x4 x5 w2
    else
    k30 x0 x1 x2 x3 (x4 + (-1)) w
def sX10_alike_30 : Nat → Nat → Int32 → Int32 → Int32 → Int32 → ab_W → Option (Int32 × ab_W)
  | 0, _, _, _, _, _, _ => none
  | n + 1, x0, x1, x2, x3, x4, w =>
    if x4 < 0 then
      if x1 = 1 then
        if x2 = 0 then
          ab_b2 (sX10_errs x0 (-1000000002) w) fun v1 w2 =>
          some (v1, w2)
        else
        sX10_alike_103 x1 x2 x3 w
      else
      sX10_alike_103 x1 x2 x3 w
    else
    (ab_getR w 10 x0 0).bind fun v3 =>
    (ab_ald w v3 2).bind fun v4 =>
    sX10_alike_45 (sX10_alike_30 n) 1000 x0 x1 x2 x3 x4 (v4 - 1) w
def sX10_alike (x0 : Nat) (x1 : Int32) (w : ab_W) : Option (Int32 × ab_W) :=
  if ab_is w 10 x0 = true then
    ab_b2 (sX10_in x1 0 1 w) fun v1 w2 =>
    if v1 = 0 then
      ab_b2 (sX10_errs x0 (-1000000001) w2) fun v3 w4 =>
      some (v3, w4)
    else
    (ab_getR w2 10 x0 0).bind fun v5 =>
    (ab_ald w2 v5 2).bind fun v6 =>
    sX10_alike_30 1000 x0 x1 0 0 (v6 - 1) w2
  else none
def sX10_oneDay_93 (k2 : Nat → Int32 → ab_W → Option (ab_W)) (x0 : Nat) (x1 : Int32) (w : ab_W) : Option (ab_W) :=
    k2 x0 (x1 + 1) w
def sX10_oneDay_2 : Nat → Nat → Int32 → ab_W → Option (ab_W)
  | 0, _, _, _ => none
  | n + 1, x0, x1, w =>
    (ab_getR w 10 x0 0).bind fun v1 =>
    (ab_ald w v1 2).bind fun v2 =>
    if x1 < v2 then
      ab_b2 (sX10_its x0 x1 4 w) fun v3 w4 =>
      if v3 = 1 then
        ab_b2 (sX10_its x0 x1 5 w4) fun v5 w6 =>
        ab_b2 (sX10_goes x0 x1 w6) fun v7 w8 =>
        ab_b2 (sX10_held (v5 + v7) 0 999 w8) fun v9 w10 =>
        (sX10_gets x0 x1 5 v9 w10).bind fun w11 =>
        ab_b2 (sX10_its x0 x1 2 w11) fun v12 w13 =>
        ab_b2 (sX10_its x0 x1 2 w13) fun v14 w15 =>
        ab_b2 (sX10_its x0 x1 5 w15) fun v16 w17 =>
        (ab_getR w17 10 x0 0).bind fun v18 =>
        (ab_ald w17 v18 0).bind fun v19 =>
        (ab_rem v19 7).bind fun v20 =>
        ab_b2 (sX10_lawOf x0 1 v14 v16 v20 w17) fun v21 w22 =>
        ab_b2 (sX10_held (v12 - v21) 0 9999 w22) fun v23 w24 =>
        (sX10_gets x0 x1 2 v23 w24).bind fun w25 =>
        sX10_oneDay_93 (sX10_oneDay_2 n) x0 x1 w25
      else
      sX10_oneDay_93 (sX10_oneDay_2 n) x0 x1 w4
    else
    (ab_getR w 10 x0 0).bind fun v26 =>
    (ab_ald w v26 0).bind fun v27 =>
    (ab_ast w v26 0 (v27 + 1)).bind fun w28 =>
    some w28
def sX10_oneDay (x0 : Nat) (w : ab_W) : Option (ab_W) :=
  if ab_is w 10 x0 = true then
    sX10_oneDay_2 1000 x0 0 w
  else none
def sX10_passes_2 : Nat → Nat → Int32 → Int32 → ab_W → Option (ab_W)
  | 0, _, _, _, _ => none
  | n + 1, x0, x1, x2, w =>
    if x2 < x1 then
      (sX10_oneDay x0 w).bind fun w1 =>
      sX10_passes_2 n x0 x1 (x2 + 1) w1
    else
    some w
def sX10_passes (x0 : Nat) (x1 : Int32) (w : ab_W) : Option (ab_W) :=
  if ab_is w 10 x0 = true then
    sX10_passes_2 1000 x0 x1 0 w
  else none
def sX10_allDebt_4 : Nat → Nat → Int32 → Int32 → ab_W → Option (Int32 × ab_W)
  | 0, _, _, _, _ => none
  | n + 1, x0, x1, x2, w =>
    (ab_getR w 10 x0 0).bind fun v1 =>
    (ab_ald w v1 2).bind fun v2 =>
    if x2 < v2 then
      ab_b2 (sX10_its x0 x2 2 w) fun v3 w4 =>
      sX10_allDebt_4 n x0 (x1 + v3) (x2 + 1) w4
    else
    some (x1, w)
def sX10_allDebt (x0 : Nat) (w : ab_W) : Option (Int32 × ab_W) :=
  if ab_is w 10 x0 = true then
    sX10_allDebt_4 1000 x0 0 0 w
  else none
def sX10_days (x0 : Nat) (x1 : Int32) (w : ab_W) : Option (Int32 × ab_W) :=
  if ab_is w 10 x0 = true then
    ab_b2 (sX10_in x1 1 60 w) fun v1 w2 =>
    if v1 = 0 then
      ab_b2 (sX10_errs x0 (-1000000001) w2) fun v3 w4 =>
      some (v3, w4)
    else
    (ab_getR w2 10 x0 0).bind fun v5 =>
    (ab_ald w2 v5 0).bind fun v6 =>
    if 9999 < (v6 + x1) then
      ab_b2 (sX10_errs x0 (-1000000003) w2) fun v7 w8 =>
      some (v7, w8)
    else
    (sX10_passes x0 x1 w2).bind fun w9 =>
    ab_b2 (sX10_allDebt x0 w9) fun v10 w11 =>
    some (v10, w11)
  else none
def sX10_drawn (x0 : Nat) (x1 : Int32) (w : ab_W) : Option (Int32 × ab_W) :=
  if ab_is w 10 x0 = true then
    (ab_getR w 10 x0 0).bind fun v1 =>
    (ab_getR w 10 x0 0).bind fun v2 =>
    (ab_ald w v2 1).bind fun v3 =>
    (ab_ast w v1 1 ((v3 * 1103515245) + 12345)).bind fun w4 =>
    (ab_getR w4 10 x0 0).bind fun v5 =>
    (ab_ald w4 v5 1).bind fun v6 =>
    (ab_rem (((v6 : Int32).toUInt32 >>> ((8 : Int32).toUInt32 &&& Int32.toUInt32 31)).toInt32) x1).bind fun v7 =>
    some (v7, w4)
  else none
def sX10_loose_40 : Nat → Nat → Int32 → Int32 → ab_W → Option (Int32 × ab_W)
  | 0, _, _, _, _ => none
  | n + 1, x0, x1, x2, w =>
    if x2 < x1 then
      (ab_getR w 10 x0 0).bind fun v1 =>
      ab_b2 (sX10_drawn x0 10 w) fun v2 w3 =>
      (ab_ast w3 v1 7 v2).bind fun w4 =>
      (sX10_oneDay x0 w4).bind fun w5 =>
      sX10_loose_40 n x0 x1 (x2 + 1) w5
    else
    ab_b2 (sX10_allDebt x0 w) fun v6 w7 =>
    some (v6, w7)
def sX10_loose (x0 : Nat) (x1 : Int32) (w : ab_W) : Option (Int32 × ab_W) :=
  if ab_is w 10 x0 = true then
    ab_b2 (sX10_in x1 1 40 w) fun v1 w2 =>
    if v1 = 0 then
      ab_b2 (sX10_errs x0 (-1000000001) w2) fun v3 w4 =>
      some (v3, w4)
    else
    (ab_getR w2 10 x0 0).bind fun v5 =>
    (ab_ald w2 v5 0).bind fun v6 =>
    if 9999 < (v6 + x1) then
      ab_b2 (sX10_errs x0 (-1000000003) w2) fun v7 w8 =>
      some (v7, w8)
    else
    sX10_loose_40 1000 x0 x1 0 w2
  else none
def sX10_setOf_47 (k4 : Nat → Int32 → Int32 → Int32 → ab_W → Option (Int32 × ab_W)) (x0 : Nat) (x1 : Int32) (x3 : Int32) (p0 : Int32) (p1 : Int32) (w : ab_W) : Option (Int32 × ab_W) :=
    k4 x0 x1 (p0 ||| p1) (x3 + 1) w
def sX10_setOf_46 (k4 : Nat → Int32 → Int32 → Int32 → ab_W → Option (Int32 × ab_W)) (x0 : Nat) (x1 : Int32) (x3 : Int32) (p0 : Int32) (w : ab_W) : Option (Int32 × ab_W) :=
    sX10_setOf_47 k4 x0 x1 x3 p0 0 w
def sX10_setOf_40 (k4 : Nat → Int32 → Int32 → Int32 → ab_W → Option (Int32 × ab_W)) (x0 : Nat) (x1 : Int32) (x3 : Int32) (p0 : Int32) (w : ab_W) : Option (Int32 × ab_W) :=
    sX10_setOf_47 k4 x0 x1 x3 p0 (1 <<< (x3 &&& 31)) w
def sX10_setOf_4 : Nat → Nat → Int32 → Int32 → Int32 → ab_W → Option (Int32 × ab_W)
  | 0, _, _, _, _, _ => none
  | n + 1, x0, x1, x2, x3, w =>
    (ab_getR w 10 x0 0).bind fun v1 =>
    (ab_ald w v1 2).bind fun v2 =>
    if x3 < v2 then
      ab_b2 (sX10_its x0 x3 4 w) fun v3 w4 =>
      if v3 = 1 then
        if x1 = 0 then
          sX10_setOf_40 (sX10_setOf_4 n) x0 x1 x3 x2 w4
        else
        ab_b2 (sX10_its x0 x3 5 w4) fun v5 w6 =>
        if v5 < 100 then
          sX10_setOf_46 (sX10_setOf_4 n) x0 x1 x3 x2 w6
        else
        sX10_setOf_40 (sX10_setOf_4 n) x0 x1 x3 x2 w6
      else
      sX10_setOf_46 (sX10_setOf_4 n) x0 x1 x3 x2 w4
    else
    some (x2, w)
def sX10_setOf (x0 : Nat) (x1 : Int32) (w : ab_W) : Option (Int32 × ab_W) :=
  if ab_is w 10 x0 = true then
    sX10_setOf_4 1000 x0 x1 0 0 w
  else none
def sX10_then_27 (x0 : Nat) (w : ab_W) : Option (Int32 × ab_W) :=
    ab_b2 (sX10_errs x0 (-1000000001) w) fun v1 w2 =>
    some (v1, w2)
def sX10_then_62 (x0 : Nat) (p0 : Nat) (p1 : Int32) (p2 : Int32) (w : ab_W) : Option (Int32 × ab_W) :=
    ab_b2 (sX10_its p0 p1 p2 w) fun v1 w2 =>
    (ab_getR w2 10 x0 2).bind fun v3 =>
    (ab_getR w2 10 x0 0).bind fun v4 =>
    (sX10_moveAll x0 v3 v4 w2).bind fun w5 =>
    some (v1, w5)
def sX10_then (x0 : Nat) (x1 : Int32) (x2 : Int32) (x3 : Int32) (w : ab_W) : Option (Int32 × ab_W) :=
  if ab_is w 10 x0 = true then
    ab_b2 (sX10_in x1 0 60 w) fun v1 w2 =>
    if v1 = 0 then
      sX10_then_27 x0 w2
    else
    ab_b2 (sX10_isPaper x0 x2 w2) fun v3 w4 =>
    if v3 = 0 then
      sX10_then_27 x0 w4
    else
    ab_b2 (sX10_in x3 0 1 w4) fun v5 w6 =>
    if v5 = 0 then
      sX10_then_27 x0 w6
    else
    (ab_getR w6 10 x0 0).bind fun v7 =>
    (ab_getR w6 10 x0 2).bind fun v8 =>
    (sX10_moveAll x0 v7 v8 w6).bind fun w9 =>
    (sX10_passes x0 x1 w9).bind fun w10 =>
    if x3 = 0 then
      sX10_then_62 x0 x0 x2 5 w10
    else
    sX10_then_62 x0 x0 x2 2 w10
  else none
def sX10_first_100 : Nat → Int32 → Int32 → Int32 → Int32 → ab_W → Option (Int32 × ab_W)
  | 0, _, _, _, _, _ => none
  | n + 1, x1, x3, x4, x5, w =>
    if ((x4 >>> (x5 &&& 31)) &&& 1) = 0 then
      sX10_first_100 n x1 x3 x4 (x5 + 1) w
    else
    if x1 = 0 then
      some (x3, w)
    else
    some (x5, w)
def sX10_first_61 (x0 : Nat) (x1 : Int32) (x2 : Int32) (x3 : Int32) (w : ab_W) : Option (Int32 × ab_W) :=
    ab_b2 (sX10_setOf x0 1 w) fun v1 w2 =>
    (ab_getR w2 10 x0 2).bind fun v3 =>
    (ab_getR w2 10 x0 0).bind fun v4 =>
    (sX10_moveAll x0 v3 v4 w2).bind fun w5 =>
    if 60 < x3 then
      ab_b2 (sX10_errs x0 (-1000000002) w5) fun v6 w7 =>
      some (v6, w7)
    else
    sX10_first_100 1000 x1 x3 (v1 &&& (x2 ^^^ (-1))) 0 w5
def sX10_first_36 : Nat → Nat → Int32 → Int32 → Int32 → ab_W → Option (Int32 × ab_W)
  | 0, _, _, _, _, _ => none
  | n + 1, x0, x1, x2, x3, w =>
    if 60 < x3 then
      sX10_first_61 x0 x1 x2 x3 w
    else
    ab_b2 (sX10_setOf x0 1 w) fun v1 w2 =>
    if v1 = x2 then
      (sX10_oneDay x0 w2).bind fun w3 =>
      sX10_first_36 n x0 x1 x2 (x3 + 1) w3
    else
    sX10_first_61 x0 x1 x2 x3 w2
def sX10_first (x0 : Nat) (x1 : Int32) (w : ab_W) : Option (Int32 × ab_W) :=
  if ab_is w 10 x0 = true then
    ab_b2 (sX10_in x1 0 1 w) fun v1 w2 =>
    if v1 = 0 then
      ab_b2 (sX10_errs x0 (-1000000001) w2) fun v3 w4 =>
      some (v3, w4)
    else
    ab_b2 (sX10_setOf x0 1 w2) fun v5 w6 =>
    (ab_getR w6 10 x0 0).bind fun v7 =>
    (ab_getR w6 10 x0 2).bind fun v8 =>
    (sX10_moveAll x0 v7 v8 w6).bind fun w9 =>
    sX10_first_36 1000 x0 x1 v5 0 w9
  else none
def sX10_best_27 (x0 : Nat) (w : ab_W) : Option (Int32 × ab_W) :=
    ab_b2 (sX10_errs x0 (-1000000001) w) fun v1 w2 =>
    some (v1, w2)
def sX10_best_158 (k55 : Nat → Int32 → Int32 → Int32 → Int32 → Int32 → Int32 → ab_W → Option (Int32 × ab_W)) (x0 : Nat) (x1 : Int32) (x2 : Int32) (x3 : Int32) (x4 : Int32) (x5 : Int32) (x6 : Int32) (w : ab_W) : Option (Int32 × ab_W) :=
    k55 x0 x1 x2 x3 x4 x5 (x6 + 1) w
def sX10_best_156 (k55 : Nat → Int32 → Int32 → Int32 → Int32 → Int32 → Int32 → ab_W → Option (Int32 × ab_W)) (x0 : Nat) (x1 : Int32) (x2 : Int32) (x3 : Int32) (x4 : Int32) (x6 : Int32) (p0 : Int32) (w : ab_W) : Option (Int32 × ab_W) :=
    sX10_best_158 k55 x0 x1 x2 x3 x4 p0 x6 w
def sX10_best_140 (k55 : Nat → Int32 → Int32 → Int32 → Int32 → Int32 → Int32 → ab_W → Option (Int32 × ab_W)) (x0 : Nat) (x1 : Int32) (x2 : Int32) (x3 : Int32) (x5 : Int32) (x6 : Int32) (x7 : Int32) (p0 : Int32) (w : ab_W) : Option (Int32 × ab_W) :=
    if x5 < x7 then
      sX10_best_156 k55 x0 x1 x2 x3 p0 x6 x7 w
    else
    sX10_best_156 k55 x0 x1 x2 x3 p0 x6 x5 w
def sX10_best_55 : Nat → Nat → Int32 → Int32 → Int32 → Int32 → Int32 → Int32 → ab_W → Option (Int32 × ab_W)
  | 0, _, _, _, _, _, _, _, _ => none
  | n + 1, x0, x1, x2, x3, x4, x5, x6, w =>
    if 127 < x6 then
      if x4 < 0 then
        ab_b2 (sX10_errs x0 (-1000000002) w) fun v1 w2 =>
        some (v1, w2)
      else
      if x3 = 0 then
        some (x4, w)
      else
      some (x5, w)
    else
    ab_b2 (sX10_isAlive x0 x1 x6 w) fun v3 w4 =>
    if v3 = 0 then
      sX10_best_158 (sX10_best_55 n) x0 x1 x2 x3 x4 x5 x6 w4
    else
    ab_b2 (sX10_thick x0 x6 w4) fun v5 w6 =>
    ab_b2 (sX10_stiff x0 x1 w6) fun v7 w8 =>
    if v7 < v5 then
      sX10_best_158 (sX10_best_55 n) x0 x1 x2 x3 x4 x5 x6 w8
    else
    (sX10_gets x0 x1 3 x6 w8).bind fun w9 =>
    (sX10_gets x0 x1 4 1 w9).bind fun w10 =>
    (sX10_passes x0 x2 w10).bind fun w11 =>
    ab_b2 (sX10_its x0 x1 5 w11) fun v12 w13 =>
    (ab_getR w13 10 x0 2).bind fun v14 =>
    (ab_getR w13 10 x0 0).bind fun v15 =>
    (sX10_moveAll x0 v14 v15 w13).bind fun w16 =>
    if x5 < v12 then
      sX10_best_140 (sX10_best_55 n) x0 x1 x2 x3 x5 x6 v12 x6 w16
    else
    sX10_best_140 (sX10_best_55 n) x0 x1 x2 x3 x5 x6 v12 x4 w16
def sX10_best (x0 : Nat) (x1 : Int32) (x2 : Int32) (x3 : Int32) (w : ab_W) : Option (Int32 × ab_W) :=
  if ab_is w 10 x0 = true then
    ab_b2 (sX10_isPaper x0 x1 w) fun v1 w2 =>
    if v1 = 0 then
      sX10_best_27 x0 w2
    else
    ab_b2 (sX10_in x2 0 60 w2) fun v3 w4 =>
    if v3 = 0 then
      sX10_best_27 x0 w4
    else
    ab_b2 (sX10_in x3 0 1 w4) fun v5 w6 =>
    if v5 = 0 then
      sX10_best_27 x0 w6
    else
    (ab_getR w6 10 x0 0).bind fun v7 =>
    (ab_getR w6 10 x0 2).bind fun v8 =>
    (sX10_moveAll x0 v7 v8 w6).bind fun w9 =>
    sX10_best_55 1000 x0 x1 x2 x3 (-1) (-1) 0 w9
  else none
def sX10_isSheet (x0 : Int32) (w : ab_W) : Option (Int32 × ab_W) :=
    ab_b2 (sX10_in x0 0 3 w) fun v1 w2 =>
    (ab_bool v1).bind fun y => some (y, w2)
def sX10_isFarSo_52 (k10 : Nat → Int32 → Int32 → Int32 → ab_W → Option (Int32 × ab_W)) (x0 : Nat) (x1 : Int32) (x4 : Int32) (p0 : Int32) (w : ab_W) : Option (Int32 × ab_W) :=
    k10 x0 x1 p0 (x4 + 1) w
def sX10_isFarSo_51 (k10 : Nat → Int32 → Int32 → Int32 → ab_W → Option (Int32 × ab_W)) (x0 : Nat) (x1 : Int32) (x4 : Int32) (w : ab_W) : Option (Int32 × ab_W) :=
    sX10_isFarSo_52 k10 x0 x1 x4 0 w
def sX10_isFarSo_10 : Nat → Nat → Int32 → Int32 → Int32 → ab_W → Option (Int32 × ab_W)
  | 0, _, _, _, _, _ => none
  | n + 1, x0, x1, x3, x4, w =>
    (ab_getR w 10 x0 0).bind fun v1 =>
    (ab_ald w v1 2).bind fun v2 =>
    if x4 < v2 then
      if x3 = 0 then
        sX10_isFarSo_51 (sX10_isFarSo_10 n) x0 x1 x4 w
      else
      ab_b2 (sX10_its x0 x4 5 w) fun v3 w4 =>
      (ab_getR w4 10 x0 19).bind fun v5 =>
      (ab_ald w4 v5 ((40 * x1) + x4)).bind fun v6 =>
      if v3 = v6 then
        sX10_isFarSo_52 (sX10_isFarSo_10 n) x0 x1 x4 1 w4
      else
      sX10_isFarSo_51 (sX10_isFarSo_10 n) x0 x1 x4 w4
    else
    (ab_bool x3).bind fun y => some (y, w)
def sX10_isFarSo (x0 : Nat) (x1 : Int32) (x2 : Int32) (w : ab_W) : Option (Int32 × ab_W) :=
  if ab_is w 10 x0 = true then
    (sX10_passes x0 x2 w).bind fun w1 =>
    sX10_isFarSo_10 1000 x0 x1 1 0 w1
  else none
def sX10_fits_16 (x0 : Nat) (w : ab_W) : Option (Int32 × ab_W) :=
    ab_b2 (sX10_errs x0 (-1000000001) w) fun v1 w2 =>
    some (v1, w2)
def sX10_fits_71 (x0 : Nat) (w : ab_W) : Option (Int32 × ab_W) :=
    ab_b2 (sX10_errs x0 (-1000000002) w) fun v1 w2 =>
    some (v1, w2)
def sX10_fits_141 (k96 : Nat → Int32 → Int32 → Int32 → Int32 → Int32 → ab_W → Option (Int32 × ab_W)) (x0 : Nat) (x1 : Int32) (x2 : Int32) (x3 : Int32) (x5 : Int32) (p0 : Int32) (p1 : Int32) (w : ab_W) : Option (Int32 × ab_W) :=
    (ab_getR w 10 x0 2).bind fun v1 =>
    (ab_getR w 10 x0 0).bind fun v2 =>
    (sX10_moveAll x0 v1 v2 w).bind fun w3 =>
    k96 x0 x1 x2 x3 (p0 ||| p1) (x5 + 1) w3
def sX10_fits_96 : Nat → Nat → Int32 → Int32 → Int32 → Int32 → Int32 → ab_W → Option (Int32 × ab_W)
  | 0, _, _, _, _, _, _, _ => none
  | n + 1, x0, x1, x2, x3, x4, x5, w =>
    if x5 < 10 then
      (ab_getR w 10 x0 0).bind fun v1 =>
      (ab_ast w v1 7 x5).bind fun w2 =>
      (ab_getR w2 10 x0 19).bind fun v3 =>
      (ab_ald w2 v3 ((40 * x1) + x3)).bind fun v4 =>
      ab_b2 (sX10_isFarSo x0 x1 v4 w2) fun v5 w6 =>
      if v5 = 0 then
        sX10_fits_141 (sX10_fits_96 n) x0 x1 x2 x3 x5 x4 0 w6
      else
      sX10_fits_141 (sX10_fits_96 n) x0 x1 x2 x3 x5 x4 (1 <<< (x5 &&& 31)) w6
    else
    if x2 = 0 then
      some (x4, w)
    else
    ab_b2 (sX10_bits x4 w) fun v7 w8 =>
    some (v7, w8)
def sX10_fits (x0 : Nat) (x1 : Int32) (x2 : Int32) (w : ab_W) : Option (Int32 × ab_W) :=
  if ab_is w 10 x0 = true then
    ab_b2 (sX10_isSheet x1 w) fun v1 w2 =>
    if v1 = 0 then
      sX10_fits_16 x0 w2
    else
    ab_b2 (sX10_in x2 0 1 w2) fun v3 w4 =>
    if v3 = 0 then
      sX10_fits_16 x0 w4
    else
    (ab_getR w4 10 x0 0).bind fun v5 =>
    (ab_ald w4 v5 2).bind fun v6 =>
    (ab_getR w4 10 x0 17).bind fun v7 =>
    (ab_ald w4 v7 x1).bind fun v8 =>
    if v8 = 0 then
      sX10_fits_71 x0 w4
    else
    (ab_getR w4 10 x0 18).bind fun v9 =>
    (ab_ald w4 v9 x1).bind fun v10 =>
    if v10 = (v6 + 1) then
      (ab_getR w4 10 x0 19).bind fun v11 =>
      (ab_ald w4 v11 ((40 * x1) + v6)).bind fun v12 =>
      ab_b2 (sX10_in v12 0 60 w4) fun v13 w14 =>
      if v13 = 0 then
        sX10_fits_71 x0 w14
      else
      (ab_getR w14 10 x0 0).bind fun v15 =>
      (ab_getR w14 10 x0 2).bind fun v16 =>
      (sX10_moveAll x0 v15 v16 w14).bind fun w17 =>
      sX10_fits_96 1000 x0 x1 x2 v6 0 0 w17
    else
    sX10_fits_71 x0 w4
  else none
def sX10_owed (x0 : Nat) (x1 : Int32) (w : ab_W) : Option (Int32 × ab_W) :=
  if ab_is w 10 x0 = true then
    ab_b2 (sX10_in x1 0 60 w) fun v1 w2 =>
    if v1 = 0 then
      ab_b2 (sX10_errs x0 (-1000000001) w2) fun v3 w4 =>
      some (v3, w4)
    else
    (ab_getR w2 10 x0 0).bind fun v5 =>
    (ab_getR w2 10 x0 2).bind fun v6 =>
    (sX10_moveAll x0 v5 v6 w2).bind fun w7 =>
    (sX10_passes x0 x1 w7).bind fun w8 =>
    ab_b2 (sX10_allDebt x0 w8) fun v9 w10 =>
    (ab_getR w10 10 x0 2).bind fun v11 =>
    (ab_getR w10 10 x0 0).bind fun v12 =>
    (sX10_moveAll x0 v11 v12 w10).bind fun w13 =>
    some (v9, w13)
  else none
def sX10_debtor_94 (k36 : Nat → Int32 → Int32 → Int32 → Int32 → ab_W → Option (Int32 × ab_W)) (x0 : Nat) (x1 : Int32) (x2 : Int32) (x3 : Int32) (x4 : Int32) (w : ab_W) : Option (Int32 × ab_W) :=
    k36 x0 x1 x2 x3 (x4 + 1) w
def sX10_debtor_88 (k36 : Nat → Int32 → Int32 → Int32 → Int32 → ab_W → Option (Int32 × ab_W)) (x0 : Nat) (x1 : Int32) (x4 : Int32) (x5 : Int32) (w : ab_W) : Option (Int32 × ab_W) :=
    sX10_debtor_94 k36 x0 x1 x4 x5 x4 w
def sX10_debtor_36 : Nat → Nat → Int32 → Int32 → Int32 → Int32 → ab_W → Option (Int32 × ab_W)
  | 0, _, _, _, _, _, _ => none
  | n + 1, x0, x1, x2, x3, x4, w =>
    (ab_getR w 10 x0 2).bind fun v1 =>
    (ab_ald w v1 2).bind fun v2 =>
    if x4 < v2 then
      (sX10_gets x0 x4 4 1 w).bind fun w3 =>
      (sX10_passes x0 x1 w3).bind fun w4 =>
      ab_b2 (sX10_allDebt x0 w4) fun v5 w6 =>
      (ab_getR w6 10 x0 2).bind fun v7 =>
      (ab_getR w6 10 x0 0).bind fun v8 =>
      (sX10_moveAll x0 v7 v8 w6).bind fun w9 =>
      if x2 < 0 then
        sX10_debtor_88 (sX10_debtor_36 n) x0 x1 x4 v5 w9
      else
      if v5 < x3 then
        sX10_debtor_88 (sX10_debtor_36 n) x0 x1 x4 v5 w9
      else
      sX10_debtor_94 (sX10_debtor_36 n) x0 x1 x2 x3 x4 w9
    else
    if x2 < 0 then
      ab_b2 (sX10_errs x0 (-1000000002) w) fun v10 w11 =>
      some (v10, w11)
    else
    some (x2, w)
def sX10_debtor (x0 : Nat) (x1 : Int32) (w : ab_W) : Option (Int32 × ab_W) :=
  if ab_is w 10 x0 = true then
    ab_b2 (sX10_in x1 0 30 w) fun v1 w2 =>
    if v1 = 0 then
      ab_b2 (sX10_errs x0 (-1000000001) w2) fun v3 w4 =>
      some (v3, w4)
    else
    (ab_getR w2 10 x0 0).bind fun v5 =>
    (ab_getR w2 10 x0 2).bind fun v6 =>
    (sX10_moveAll x0 v5 v6 w2).bind fun w7 =>
    sX10_debtor_36 1000 x0 x1 (-1) 0 0 w7
  else none
def sX10_divisor_4 : Nat → Int32 → Int32 → ab_W → Option (Int32 × ab_W)
  | 0, _, _, _ => none
  | n + 1, x2, x3, w =>
    if x3 = 0 then
      some (x2, w)
    else
    (ab_rem x2 x3).bind fun v1 =>
    sX10_divisor_4 n x3 v1 w
def sX10_divisor (x0 : Int32) (x1 : Int32) (w : ab_W) : Option (Int32 × ab_W) :=
    sX10_divisor_4 1000 x0 x1 w
def sX10_odds_17 (x0 : Nat) (w : ab_W) : Option (Int32 × ab_W) :=
    ab_b2 (sX10_errs x0 (-1000000001) w) fun v1 w2 =>
    some (v1, w2)
def sX10_odds_96 (k32 : Nat → Int32 → Int32 → Int32 → Int32 → Int32 → ab_W → Option (Int32 × ab_W)) (x0 : Nat) (x1 : Int32) (x2 : Int32) (x4 : Int32) (x5 : Int32) (p0 : Int32) (p1 : Int32) (w : ab_W) : Option (Int32 × ab_W) :=
    k32 x0 x1 x2 (p0 + p1) x4 (x5 + 1) w
def sX10_odds_95 (k32 : Nat → Int32 → Int32 → Int32 → Int32 → Int32 → ab_W → Option (Int32 × ab_W)) (x0 : Nat) (x1 : Int32) (x2 : Int32) (x4 : Int32) (x5 : Int32) (p0 : Int32) (w : ab_W) : Option (Int32 × ab_W) :=
    sX10_odds_96 k32 x0 x1 x2 x4 x5 p0 0 w
def sX10_odds_72 (k32 : Nat → Int32 → Int32 → Int32 → Int32 → Int32 → ab_W → Option (Int32 × ab_W)) (x0 : Nat) (x1 : Int32) (x2 : Int32) (x3 : Int32) (x5 : Int32) (x6 : Int32) (p0 : Int32) (p1 : Int32) (w : ab_W) : Option (Int32 × ab_W) :=
    if x6 = 0 then
      sX10_odds_95 k32 x0 x1 x2 (p0 + p1) x5 x3 w
    else
    ab_b2 (sX10_isAlive x0 x1 x5 w) fun v1 w2 =>
    if v1 = 0 then
      sX10_odds_95 k32 x0 x1 x2 (p0 + p1) x5 x3 w2
    else
    sX10_odds_96 k32 x0 x1 x2 (p0 + p1) x5 x3 1 w2
def sX10_odds_58 (k32 : Nat → Int32 → Int32 → Int32 → Int32 → Int32 → ab_W → Option (Int32 × ab_W)) (x0 : Nat) (x1 : Int32) (x2 : Int32) (x3 : Int32) (x4 : Int32) (x5 : Int32) (p0 : Int32) (w : ab_W) : Option (Int32 × ab_W) :=
    if p0 = 0 then
      sX10_odds_72 k32 x0 x1 x2 x3 x5 p0 x4 0 w
    else
    sX10_odds_72 k32 x0 x1 x2 x3 x5 p0 x4 1 w
def sX10_odds_32 : Nat → Nat → Int32 → Int32 → Int32 → Int32 → Int32 → ab_W → Option (Int32 × ab_W)
  | 0, _, _, _, _, _, _, _ => none
  | n + 1, x0, x1, x2, x3, x4, x5, w =>
    if 127 < x5 then
      ab_b2 (sX10_divisor x3 x4 w) fun v1 w2 =>
      if x2 = 0 then
        (ab_div x3 v1).bind fun v3 =>
        some (v3, w2)
      else
      (ab_div x4 v1).bind fun v4 =>
      some (v4, w2)
    else
    ab_b2 (sX10_thick x0 x5 w) fun v5 w6 =>
    ab_b2 (sX10_stiff x0 x1 w6) fun v7 w8 =>
    if v7 < v5 then
      sX10_odds_58 (sX10_odds_32 n) x0 x1 x2 x3 x4 x5 0 w8
    else
    sX10_odds_58 (sX10_odds_32 n) x0 x1 x2 x3 x4 x5 1 w8
def sX10_odds (x0 : Nat) (x1 : Int32) (x2 : Int32) (w : ab_W) : Option (Int32 × ab_W) :=
  if ab_is w 10 x0 = true then
    ab_b2 (sX10_isPaper x0 x1 w) fun v1 w2 =>
    if v1 = 0 then
      sX10_odds_17 x0 w2
    else
    ab_b2 (sX10_in x2 0 1 w2) fun v3 w4 =>
    if v3 = 0 then
      sX10_odds_17 x0 w4
    else
    sX10_odds_32 1000 x0 x1 x2 0 0 0 w4
  else none
def sX10_seed (x0 : Nat) (x1 : Int32) (w : ab_W) : Option (Int32 × ab_W) :=
  if ab_is w 10 x0 = true then
    (ab_getR w 10 x0 0).bind fun v1 =>
    (ab_ald w v1 1).bind fun v2 =>
    (ab_getR w 10 x0 0).bind fun v3 =>
    (ab_ast w v3 1 x1).bind fun w4 =>
    some (v2, w4)
  else none
def sX10_ran (x0 : Nat) (x1 : Int32) (w : ab_W) : Option (ab_W) :=
  if ab_is w 10 x0 = true then
    (ab_getI w 10 x0 22).bind fun v1 =>
    if v1 < 40 then
      (ab_getR w 10 x0 21).bind fun v2 =>
      (ab_getI w 10 x0 22).bind fun v3 =>
      (ab_ast w v2 v3 x1).bind fun w4 =>
      (ab_getI w4 10 x0 22).bind fun v5 =>
      (ab_putI w4 10 x0 22 (v5 + 1)).bind fun w6 =>
      some w6
    else
    some w
  else none
def bX10_creasesIn (f_X10_creasesIn : Nat → Int32 → Int32 → ab_W → Option (Int32 × ab_W)) (x0 : Nat) (x1 : Int32) (x2 : Int32) (w : ab_W) : Option (Int32 × ab_W) :=
  if ab_is w 10 x0 = true then
    if x1 = 0 then
      (sX10_ran x0 10 w).bind fun w1 =>
      (ab_getI w1 10 x0 24).bind fun v2 =>
      some ((x2 + v2), w1)
    else
    if x1 = 1 then
      (sX10_ran x0 20 w).bind fun w3 =>
      ab_b2 (f_X10_creasesIn x0 0 x2 w3) fun v4 w5 =>
      some ((v4 * 3), w5)
    else
    ab_b2 (sX10_above x1 w) fun v6 w7 =>
    ab_b2 (f_X10_creasesIn x0 v6 x2 w7) fun v8 w9 =>
    some (v8, w9)
  else none
def gpX10_creasesIn : Nat → (Nat → Int32 → Int32 → ab_W → Option (Int32 × ab_W))
  | 0 => (fun _ _ _ _ => none)
  | n + 1 => (bX10_creasesIn ((gpX10_creasesIn n)))
def sX10_creasesIn (n : Nat) : Nat → Int32 → Int32 → ab_W → Option (Int32 × ab_W) := (gpX10_creasesIn n)
theorem sX10_creasesIn_s (n : Nat) : sX10_creasesIn (n + 1) = bX10_creasesIn (sX10_creasesIn n) := rfl
def bX10_restsIn (f_X10_restsIn : Nat → Int32 → Int32 → ab_W → Option (Int32 × ab_W)) (x0 : Nat) (x1 : Int32) (x2 : Int32) (w : ab_W) : Option (Int32 × ab_W) :=
  if ab_is w 10 x0 = true then
    if x1 = 0 then
      (sX10_ran x0 12 w).bind fun w1 =>
      (ab_getI w1 10 x0 25).bind fun v2 =>
      some ((x2 - v2), w1)
    else
    if x1 = 3 then
      (sX10_ran x0 40 w).bind fun w3 =>
      ab_b2 (f_X10_restsIn x0 0 x2 w3) fun v4 w5 =>
      some ((-v4), w5)
    else
    if x1 = 6 then
      (sX10_ran x0 70 w).bind fun w6 =>
      ab_b2 (f_X10_restsIn x0 3 x2 w6) fun v7 w8 =>
      (ab_getI w8 10 x0 24).bind fun v9 =>
      some ((v7 ^^^ v9), w8)
    else
    ab_b2 (sX10_above x1 w) fun v10 w11 =>
    ab_b2 (f_X10_restsIn x0 v10 x2 w11) fun v12 w13 =>
    some (v12, w13)
  else none
def gpX10_restsIn : Nat → (Nat → Int32 → Int32 → ab_W → Option (Int32 × ab_W))
  | 0 => (fun _ _ _ _ => none)
  | n + 1 => (bX10_restsIn ((gpX10_restsIn n)))
def sX10_restsIn (n : Nat) : Nat → Int32 → Int32 → ab_W → Option (Int32 × ab_W) := (gpX10_restsIn n)
theorem sX10_restsIn_s (n : Nat) : sX10_restsIn (n + 1) = bX10_restsIn (sX10_restsIn n) := rfl
def bX10_fliesIn (f_X10_fliesIn : Nat → Int32 → Int32 → ab_W → Option (Int32 × ab_W)) (x0 : Nat) (x1 : Int32) (x2 : Int32) (w : ab_W) : Option (Int32 × ab_W) :=
  if ab_is w 10 x0 = true then
    if x1 = 0 then
      (sX10_ran x0 11 w).bind fun w1 =>
      (ab_getI w1 10 x0 23).bind fun v2 =>
      ab_b2 (sX10_creasesIn 100 x0 v2 x2 w1) fun v3 w4 =>
      some ((v3 * 2), w4)
    else
    if x1 = 2 then
      (sX10_ran x0 30 w).bind fun w5 =>
      ab_b2 (f_X10_fliesIn x0 0 x2 w5) fun v6 w7 =>
      (ab_getI w7 10 x0 23).bind fun v8 =>
      ab_b2 (sX10_restsIn 100 x0 v8 1 w7) fun v9 w10 =>
      some ((v6 - v9), w10)
    else
    if x1 = 5 then
      (sX10_ran x0 60 w).bind fun w11 =>
      ab_b2 (f_X10_fliesIn x0 2 (x2 + 1) w11) fun v12 w13 =>
      some (v12, w13)
    else
    ab_b2 (sX10_above x1 w) fun v14 w15 =>
    ab_b2 (f_X10_fliesIn x0 v14 x2 w15) fun v16 w17 =>
    some (v16, w17)
  else none
def gpX10_fliesIn : Nat → (Nat → Int32 → Int32 → ab_W → Option (Int32 × ab_W))
  | 0 => (fun _ _ _ _ => none)
  | n + 1 => (bX10_fliesIn ((gpX10_fliesIn n)))
def sX10_fliesIn (n : Nat) : Nat → Int32 → Int32 → ab_W → Option (Int32 × ab_W) := (gpX10_fliesIn n)
theorem sX10_fliesIn_s (n : Nat) : sX10_fliesIn (n + 1) = bX10_fliesIn (sX10_fliesIn n) := rfl
def bX10_tellsIn (f_X10_tellsIn : Nat → Int32 → Int32 → ab_W → Option (Int32 × ab_W)) (x0 : Nat) (x1 : Int32) (x2 : Int32) (w : ab_W) : Option (Int32 × ab_W) :=
  if ab_is w 10 x0 = true then
    if x1 = 0 then
      (sX10_ran x0 13 w).bind fun w1 =>
      (ab_getI w1 10 x0 23).bind fun v2 =>
      ab_b2 (sX10_fliesIn 100 x0 v2 x2 w1) fun v3 w4 =>
      (ab_getI w4 10 x0 23).bind fun v5 =>
      ab_b2 (sX10_restsIn 100 x0 v5 x2 w4) fun v6 w7 =>
      some ((v3 ^^^ v6), w7)
    else
    if x1 = 4 then
      (sX10_ran x0 50 w).bind fun w8 =>
      ab_b2 (f_X10_tellsIn x0 1 x2 w8) fun v9 w10 =>
      (ab_getI w10 10 x0 23).bind fun v11 =>
      ab_b2 (sX10_creasesIn 100 x0 v11 2 w10) fun v12 w13 =>
      some ((v9 - v12), w13)
    else
    if x1 = 6 then
      (sX10_ran x0 71 w).bind fun w14 =>
      (ab_getI w14 10 x0 23).bind fun v15 =>
      ab_b2 (sX10_fliesIn 100 x0 v15 x2 w14) fun v16 w17 =>
      ab_b2 (f_X10_tellsIn x0 3 x2 w17) fun v18 w19 =>
      some ((v16 - v18), w19)
    else
    ab_b2 (sX10_above x1 w) fun v20 w21 =>
    ab_b2 (f_X10_tellsIn x0 v20 x2 w21) fun v22 w23 =>
    some (v22, w23)
  else none
def gpX10_tellsIn : Nat → (Nat → Int32 → Int32 → ab_W → Option (Int32 × ab_W))
  | 0 => (fun _ _ _ _ => none)
  | n + 1 => (bX10_tellsIn ((gpX10_tellsIn n)))
def sX10_tellsIn (n : Nat) : Nat → Int32 → Int32 → ab_W → Option (Int32 × ab_W) := (gpX10_tellsIn n)
theorem sX10_tellsIn_s (n : Nat) : sX10_tellsIn (n + 1) = bX10_tellsIn (sX10_tellsIn n) := rfl
def sX10_voice_17 (x0 : Nat) (w : ab_W) : Option (Int32 × ab_W) :=
    ab_b2 (sX10_errs x0 (-1000000001) w) fun v1 w2 =>
    some (v1, w2)
def sX10_voice (x0 : Nat) (x1 : Int32) (x2 : Int32) (x3 : Int32) (w : ab_W) : Option (Int32 × ab_W) :=
  if ab_is w 10 x0 = true then
    ab_b2 (sX10_isPaper x0 x1 w) fun v1 w2 =>
    if v1 = 0 then
      sX10_voice_17 x0 w2
    else
    ab_b2 (sX10_in x2 0 3 w2) fun v3 w4 =>
    if v3 = 0 then
      sX10_voice_17 x0 w4
    else
    (ab_putI w4 10 x0 22 0).bind fun w5 =>
    ab_b2 (sX10_its x0 x1 0 w5) fun v6 w7 =>
    (ab_putI w7 10 x0 23 v6).bind fun w8 =>
    (ab_putI w8 10 x0 24 x1).bind fun w9 =>
    ab_b2 (sX10_its x0 x1 1 w9) fun v10 w11 =>
    (ab_putI w11 10 x0 25 v10).bind fun w12 =>
    if x2 = 0 then
      (ab_getI w12 10 x0 23).bind fun v13 =>
      ab_b2 (sX10_creasesIn 100 x0 v13 x3 w12) fun v14 w15 =>
      some (v14, w15)
    else
    if x2 = 1 then
      (ab_getI w12 10 x0 23).bind fun v16 =>
      ab_b2 (sX10_fliesIn 100 x0 v16 x3 w12) fun v17 w18 =>
      some (v17, w18)
    else
    if x2 = 2 then
      (ab_getI w12 10 x0 23).bind fun v19 =>
      ab_b2 (sX10_restsIn 100 x0 v19 x3 w12) fun v20 w21 =>
      some (v20, w21)
    else
    (ab_getI w12 10 x0 23).bind fun v22 =>
    ab_b2 (sX10_tellsIn 100 x0 v22 x3 w12) fun v23 w24 =>
    some (v23, w24)
  else none
def sX10_trace (x0 : Nat) (x1 : Int32) (w : ab_W) : Option (Int32 × ab_W) :=
  if ab_is w 10 x0 = true then
    (ab_getI w 10 x0 22).bind fun v1 =>
    ab_b2 (sX10_in x1 0 (v1 - 1) w) fun v2 w3 =>
    if v2 = 0 then
      ab_b2 (sX10_errs x0 (-1000000002) w3) fun v4 w5 =>
      some (v4, w5)
    else
    (ab_getR w3 10 x0 21).bind fun v6 =>
    (ab_ald w3 v6 x1).bind fun v7 =>
    some (v7, w3)
  else none
def sX10_narrow (x0 : Int32) (x1 : Int32) (w : ab_W) : Option (Int32 × ab_W) :=
    if x0 = 8 then
      some ((x1 : Int32).toInt8.toInt32, w)
    else
    if x0 = 16 then
      some ((x1 : Int32).toInt16.toInt32, w)
    else
    some (x1, w)
def sX10_sheet_29 (x0 : Nat) (w : ab_W) : Option (Int32 × ab_W) :=
    ab_b2 (sX10_errs x0 (-1000000001) w) fun v1 w2 =>
    some (v1, w2)
def sX10_sheet_93 : Nat → Nat → Int32 → Int32 → ab_W → Option (Int32 × ab_W)
  | 0, _, _, _, _ => none
  | n + 1, x0, x1, x4, w =>
    if x4 < 40 then
      (ab_getR w 10 x0 19).bind fun v1 =>
      (ab_ast w v1 ((40 * x1) + x4) 0).bind fun w2 =>
      sX10_sheet_93 n x0 x1 (x4 + 1) w2
    else
    some (1, w)
def sX10_sheet_89 (x0 : Nat) (x1 : Int32) (p0 : Nat) (p1 : Int32) (p2 : Int32) (w : ab_W) : Option (Int32 × ab_W) :=
    (ab_ast w p0 p1 p2).bind fun w1 =>
    sX10_sheet_93 1000 x0 x1 0 w1
def sX10_sheet_68 (x0 : Nat) (x1 : Int32) (x2 : Int32) (x3 : Int32) (w : ab_W) : Option (Int32 × ab_W) :=
    (ab_getR w 10 x0 17).bind fun v1 =>
    (ab_ast w v1 x1 x2).bind fun w2 =>
    (ab_getR w2 10 x0 18).bind fun v3 =>
    if x2 = 0 then
      sX10_sheet_89 x0 x1 v3 x1 0 w2
    else
    sX10_sheet_89 x0 x1 v3 x1 x3 w2
def sX10_sheet_51 (x0 : Nat) (x1 : Int32) (x2 : Int32) (x3 : Int32) (w : ab_W) : Option (Int32 × ab_W) :=
    if x2 = 0 then
      sX10_sheet_68 x0 x1 x2 x3 w
    else
    if 40 < x3 then
      ab_b2 (sX10_errs x0 (-1000000001) w) fun v1 w2 =>
      some (v1, w2)
    else
    sX10_sheet_68 x0 x1 x2 x3 w
def sX10_sheet_36 (x0 : Nat) (x1 : Int32) (x2 : Int32) (x3 : Int32) (w : ab_W) : Option (Int32 × ab_W) :=
    if x2 = 0 then
      sX10_sheet_51 x0 x1 x2 x3 w
    else
    if x3 < 0 then
      ab_b2 (sX10_errs x0 (-1000000003) w) fun v1 w2 =>
      some (v1, w2)
    else
    sX10_sheet_51 x0 x1 x2 x3 w
def sX10_sheet (x0 : Nat) (x1 : Int32) (x2 : Int32) (x3 : Int32) (w : ab_W) : Option (Int32 × ab_W) :=
  if ab_is w 10 x0 = true then
    ab_b2 (sX10_isSheet x1 w) fun v1 w2 =>
    if v1 = 0 then
      sX10_sheet_29 x0 w2
    else
    if x2 = 0 then
      sX10_sheet_36 x0 x1 x2 x3 w2
    else
    if x2 = 8 then
      sX10_sheet_36 x0 x1 x2 x3 w2
    else
    if x2 = 16 then
      sX10_sheet_36 x0 x1 x2 x3 w2
    else
    if x2 = 32 then
      sX10_sheet_36 x0 x1 x2 x3 w2
    else
    sX10_sheet_29 x0 w2
  else none
def sX10_put (x0 : Nat) (x1 : Int32) (x2 : Int32) (x3 : Int32) (w : ab_W) : Option (Int32 × ab_W) :=
  if ab_is w 10 x0 = true then
    ab_b2 (sX10_isSheet x1 w) fun v1 w2 =>
    if v1 = 0 then
      ab_b2 (sX10_errs x0 (-1000000001) w2) fun v3 w4 =>
      some (v3, w4)
    else
    (ab_getR w2 10 x0 17).bind fun v5 =>
    (ab_ald w2 v5 x1).bind fun v6 =>
    if v6 = 0 then
      ab_b2 (sX10_errs x0 (-1000000002) w2) fun v7 w8 =>
      some (v7, w8)
    else
    (ab_getR w2 10 x0 18).bind fun v9 =>
    (ab_ald w2 v9 x1).bind fun v10 =>
    ab_b2 (sX10_in x2 0 (v10 - 1) w2) fun v11 w12 =>
    if v11 = 0 then
      ab_b2 (sX10_errs x0 (-1000000001) w12) fun v13 w14 =>
      some (v13, w14)
    else
    (ab_getR w12 10 x0 19).bind fun v15 =>
    (ab_getR w12 10 x0 17).bind fun v16 =>
    (ab_ald w12 v16 x1).bind fun v17 =>
    ab_b2 (sX10_narrow v17 x3 w12) fun v18 w19 =>
    (ab_ast w19 v15 ((40 * x1) + x2) v18).bind fun w20 =>
    some (1, w20)
  else none
def sX10_move_14 (x0 : Nat) (w : ab_W) : Option (Int32 × ab_W) :=
    ab_b2 (sX10_errs x0 (-1000000001) w) fun v1 w2 =>
    some (v1, w2)
def sX10_move_39 (x0 : Nat) (w : ab_W) : Option (Int32 × ab_W) :=
    ab_b2 (sX10_errs x0 (-1000000002) w) fun v1 w2 =>
    some (v1, w2)
def sX10_move_109 (x0 : Nat) (w : ab_W) : Option (Int32 × ab_W) :=
    ab_b2 (sX10_errs x0 (-1000000001) w) fun v1 w2 =>
    some (v1, w2)
def sX10_move_156 : Nat → Nat → Int32 → Int32 → Int32 → Int32 → ab_W → Option (Int32 × ab_W)
  | 0, _, _, _, _, _, _ => none
  | n + 1, x0, x3, x4, x5, x6, w =>
    if x6 < x5 then
      (ab_getR w 10 x0 19).bind fun v1 =>
      (ab_getR w 10 x0 20).bind fun v2 =>
      (ab_ald w v2 x6).bind fun v3 =>
      (ab_ast w v1 (((40 * x3) + x4) + x6) v3).bind fun w4 =>
      sX10_move_156 n x0 x3 x4 x5 (x6 + 1) w4
    else
    some (x5, w)
def sX10_move_119 : Nat → Nat → Int32 → Int32 → Int32 → Int32 → Int32 → Int32 → ab_W → Option (Int32 × ab_W)
  | 0, _, _, _, _, _, _, _, _ => none
  | n + 1, x0, x1, x2, x3, x4, x5, x6, w =>
    if x6 < x5 then
      (ab_getR w 10 x0 20).bind fun v1 =>
      (ab_getR w 10 x0 19).bind fun v2 =>
      (ab_ald w v2 (((40 * x1) + x2) + x6)).bind fun v3 =>
      (ab_ast w v1 x6 v3).bind fun w4 =>
      sX10_move_119 n x0 x1 x2 x3 x4 x5 (x6 + 1) w4
    else
    sX10_move_156 1000 x0 x3 x4 x5 0 w
def sX10_move (x0 : Nat) (x1 : Int32) (x2 : Int32) (x3 : Int32) (x4 : Int32) (x5 : Int32) (w : ab_W) : Option (Int32 × ab_W) :=
  if ab_is w 10 x0 = true then
    ab_b2 (sX10_isSheet x1 w) fun v1 w2 =>
    if v1 = 0 then
      sX10_move_14 x0 w2
    else
    ab_b2 (sX10_isSheet x3 w2) fun v3 w4 =>
    if v3 = 0 then
      sX10_move_14 x0 w4
    else
    (ab_getR w4 10 x0 17).bind fun v5 =>
    (ab_ald w4 v5 x1).bind fun v6 =>
    if v6 = 0 then
      sX10_move_39 x0 w4
    else
    (ab_getR w4 10 x0 17).bind fun v7 =>
    (ab_ald w4 v7 x3).bind fun v8 =>
    if v8 = 0 then
      sX10_move_39 x0 w4
    else
    (ab_getR w4 10 x0 17).bind fun v9 =>
    (ab_ald w4 v9 x1).bind fun v10 =>
    (ab_getR w4 10 x0 17).bind fun v11 =>
    (ab_ald w4 v11 x3).bind fun v12 =>
    if v10 = v12 then
      if x5 < 0 then
        sX10_move_109 x0 w4
      else
      if x2 < 0 then
        sX10_move_109 x0 w4
      else
      if x4 < 0 then
        sX10_move_109 x0 w4
      else
      (ab_getR w4 10 x0 18).bind fun v13 =>
      (ab_ald w4 v13 x1).bind fun v14 =>
      if (v14 - x5) < x2 then
        sX10_move_109 x0 w4
      else
      (ab_getR w4 10 x0 18).bind fun v15 =>
      (ab_ald w4 v15 x3).bind fun v16 =>
      if (v16 - x5) < x4 then
        sX10_move_109 x0 w4
      else
      sX10_move_119 1000 x0 x1 x2 x3 x4 x5 0 w4
    else
    ab_b2 (sX10_errs x0 (-1000000005) w4) fun v17 w18 =>
    some (v17, w18)
  else none
def sX10_debts_32 : Nat → Nat → Int32 → Int32 → ab_W → Option (Int32 × ab_W)
  | 0, _, _, _, _ => none
  | n + 1, x0, x1, x2, w =>
    (ab_getR w 10 x0 18).bind fun v1 =>
    (ab_ald w v1 x1).bind fun v2 =>
    if x2 < v2 then
      ab_b2 (sX10_isPaper x0 x2 w) fun v3 w4 =>
      if v3 = 0 then
        some (x2, w4)
      else
      (ab_getR w4 10 x0 19).bind fun v5 =>
      (ab_ald w4 v5 ((40 * x1) + x2)).bind fun v6 =>
      ab_b2 (sX10_in v6 0 9999 w4) fun v7 w8 =>
      if v7 = 0 then
        some (x2, w8)
      else
      (ab_getR w8 10 x0 19).bind fun v9 =>
      (ab_ald w8 v9 ((40 * x1) + x2)).bind fun v10 =>
      (sX10_gets x0 x2 2 v10 w8).bind fun w11 =>
      sX10_debts_32 n x0 x1 (x2 + 1) w11
    else
    some (x2, w)
def sX10_debts (x0 : Nat) (x1 : Int32) (w : ab_W) : Option (Int32 × ab_W) :=
  if ab_is w 10 x0 = true then
    ab_b2 (sX10_isSheet x1 w) fun v1 w2 =>
    if v1 = 0 then
      ab_b2 (sX10_errs x0 (-1000000001) w2) fun v3 w4 =>
      some (v3, w4)
    else
    (ab_getR w2 10 x0 17).bind fun v5 =>
    (ab_ald w2 v5 x1).bind fun v6 =>
    if v6 = 0 then
      ab_b2 (sX10_errs x0 (-1000000002) w2) fun v7 w8 =>
      some (v7, w8)
    else
    sX10_debts_32 1000 x0 x1 0 w2
  else none
def sX10_judge_78 (x0 : Nat) (x1 : Int32) (x2 : Int32) (w : ab_W) : Option (Int32 × ab_W) :=
    (ab_getR w 10 x0 0).bind fun v1 =>
    (ab_ald w v1 2).bind fun v2 =>
    if x2 = v2 then
      (ab_getR w 10 x0 18).bind fun v3 =>
      (ab_ald w v3 x1).bind fun v4 =>
      if x2 = v4 then
        some ((-1), w)
      else
      some (x2, w)
    else
    some (x2, w)
def sX10_judge_32 : Nat → Nat → Int32 → Int32 → ab_W → Option (Int32 × ab_W)
  | 0, _, _, _, _ => none
  | n + 1, x0, x1, x2, w =>
    (ab_getR w 10 x0 0).bind fun v1 =>
    (ab_ald w v1 2).bind fun v2 =>
    if x2 < v2 then
      (ab_getR w 10 x0 18).bind fun v3 =>
      (ab_ald w v3 x1).bind fun v4 =>
      if x2 < v4 then
        (ab_getR w 10 x0 19).bind fun v5 =>
        (ab_ald w v5 ((40 * x1) + x2)).bind fun v6 =>
        ab_b2 (sX10_its x0 x2 3 w) fun v7 w8 =>
        if v6 = v7 then
          sX10_judge_32 n x0 x1 (x2 + 1) w8
        else
        sX10_judge_78 x0 x1 x2 w8
      else
      sX10_judge_78 x0 x1 x2 w
    else
    sX10_judge_78 x0 x1 x2 w
def sX10_judge (x0 : Nat) (x1 : Int32) (w : ab_W) : Option (Int32 × ab_W) :=
  if ab_is w 10 x0 = true then
    ab_b2 (sX10_isSheet x1 w) fun v1 w2 =>
    if v1 = 0 then
      ab_b2 (sX10_errs x0 (-1000000001) w2) fun v3 w4 =>
      some (v3, w4)
    else
    (ab_getR w2 10 x0 17).bind fun v5 =>
    (ab_ald w2 v5 x1).bind fun v6 =>
    if v6 = 0 then
      ab_b2 (sX10_errs x0 (-1000000002) w2) fun v7 w8 =>
      some (v7, w8)
    else
    sX10_judge_32 1000 x0 x1 0 w2
  else none
def sX10_image (x0 : Nat) (w : ab_W) : Option (Int32 × ab_W) :=
  if ab_is w 10 x0 = true then
    (ab_getR w 10 x0 0).bind fun v1 =>
    (ab_getR w 10 x0 1).bind fun v2 =>
    (sX10_moveAll x0 v1 v2 w).bind fun w3 =>
    (ab_putZ w3 10 x0 4 1).bind fun w4 =>
    (ab_getI w4 10 x0 5).bind fun v5 =>
    (ab_putI w4 10 x0 5 (v5 + 1)).bind fun w6 =>
    (ab_getI w6 10 x0 5).bind fun v7 =>
    some (v7, w6)
  else none
def sX10_restore (x0 : Nat) (w : ab_W) : Option (Int32 × ab_W) :=
  if ab_is w 10 x0 = true then
    (ab_getI w 10 x0 4).bind fun v1 =>
    if v1 = 0 then
      ab_b2 (sX10_errs x0 (-1000000002) w) fun v2 w3 =>
      some (v2, w3)
    else
    (ab_getR w 10 x0 1).bind fun v4 =>
    (ab_getR w 10 x0 0).bind fun v5 =>
    (sX10_moveAll x0 v4 v5 w).bind fun w6 =>
    (ab_getR w6 10 x0 0).bind fun v7 =>
    (ab_ald w6 v7 0).bind fun v8 =>
    some (v8, w6)
  else none
def sX10_tell (x0 : Nat) (x1 : Int32) (w : ab_W) : Option (Int32 × ab_W) :=
  if ab_is w 10 x0 = true then
    (ab_getR w 10 x0 0).bind fun v1 =>
    (ab_ald w v1 4).bind fun v2 =>
    if v2 = 20 then
      ab_b2 (sX10_errs x0 (-1000000004) w) fun v3 w4 =>
      some (v3, w4)
    else
    (ab_getR w 10 x0 0).bind fun v5 =>
    (ab_getR w 10 x0 0).bind fun v6 =>
    (ab_ald w v6 4).bind fun v7 =>
    (ab_ast w v5 (106 + v7) x1).bind fun w8 =>
    (ab_getR w8 10 x0 0).bind fun v9 =>
    (ab_ald w8 v9 4).bind fun v10 =>
    (ab_ast w8 v9 4 (v10 + 1)).bind fun w11 =>
    (ab_getR w11 10 x0 0).bind fun v12 =>
    (ab_ald w11 v12 4).bind fun v13 =>
    some (v13, w11)
  else none
def sX10_check_80 (x0 : Nat) (x2 : Int32) (x3 : Int32) (w : ab_W) : Option (Int32 × ab_W) :=
    (ab_getR w 10 x0 2).bind fun v1 =>
    (ab_getR w 10 x0 0).bind fun v2 =>
    (sX10_moveAll x0 v1 v2 w).bind fun w3 =>
    if x3 = 0 then
      some ((1 + x2), w3)
    else
    some (0, w3)
def sX10_check_75 (k30 : Nat → Int32 → Int32 → Int32 → ab_W → Option (Int32 × ab_W)) (x0 : Nat) (x1 : Int32) (x3 : Int32) (p0 : Int32) (p1 : Int32) (w : ab_W) : Option (Int32 × ab_W) :=
    k30 x0 x1 (p0 + p1) x3 w
def sX10_check_64 (k30 : Nat → Int32 → Int32 → Int32 → ab_W → Option (Int32 × ab_W)) (x0 : Nat) (x1 : Int32) (x2 : Int32) (p0 : Int32) (w : ab_W) : Option (Int32 × ab_W) :=
    if p0 = 0 then
      sX10_check_75 k30 x0 x1 p0 x2 0 w
    else
    sX10_check_75 k30 x0 x1 p0 x2 1 w
def sX10_check_30 : Nat → Nat → Int32 → Int32 → Int32 → ab_W → Option (Int32 × ab_W)
  | 0, _, _, _, _, _ => none
  | n + 1, x0, x1, x2, x3, w =>
    if x2 < x1 then
      if x3 = 0 then
        sX10_check_80 x0 x2 x3 w
      else
      (sX10_oneDay x0 w).bind fun w1 =>
      ab_b2 (sX10_allDebt x0 w1) fun v2 w3 =>
      (ab_getR w3 10 x0 0).bind fun v4 =>
      (ab_ald w3 v4 (106 + x2)).bind fun v5 =>
      if v2 = v5 then
        sX10_check_64 (sX10_check_30 n) x0 x1 x2 1 w3
      else
      sX10_check_64 (sX10_check_30 n) x0 x1 x2 0 w3
    else
    sX10_check_80 x0 x2 x3 w
def sX10_check (x0 : Nat) (w : ab_W) : Option (Int32 × ab_W) :=
  if ab_is w 10 x0 = true then
    (ab_getR w 10 x0 0).bind fun v1 =>
    (ab_ald w v1 4).bind fun v2 =>
    (ab_getR w 10 x0 0).bind fun v3 =>
    (ab_ast w v3 4 0).bind fun w4 =>
    (ab_getR w4 10 x0 0).bind fun v5 =>
    (ab_getR w4 10 x0 2).bind fun v6 =>
    (sX10_moveAll x0 v5 v6 w4).bind fun w7 =>
    sX10_check_30 1000 x0 v2 0 1 w7
  else none
def sX10_count (x0 : Nat) (x1 : Int32) (w : ab_W) : Option (Int32 × ab_W) :=
  if ab_is w 10 x0 = true then
    if x1 = 0 then
      (ab_getR w 10 x0 0).bind fun v1 =>
      (ab_ald w v1 2).bind fun v2 =>
      some (v2, w)
    else
    if x1 = 1 then
      (ab_getR w 10 x0 0).bind fun v3 =>
      (ab_ald w v3 0).bind fun v4 =>
      some (v4, w)
    else
    if x1 = 2 then
      (ab_getR w 10 x0 0).bind fun v5 =>
      (ab_ald w v5 7).bind fun v6 =>
      some (v6, w)
    else
    if x1 = 3 then
      ab_b2 (sX10_allDebt x0 w) fun v7 w8 =>
      some (v7, w8)
    else
    if x1 = 4 then
      ab_b2 (sX10_setOf x0 0 w) fun v9 w10 =>
      some (v9, w10)
    else
    if x1 = 5 then
      ab_b2 (sX10_setOf x0 1 w) fun v11 w12 =>
      some (v11, w12)
    else
    if x1 = 6 then
      (ab_getR w 10 x0 0).bind fun v13 =>
      (ab_ald w v13 3).bind fun v14 =>
      some (v14, w)
    else
    if x1 = 7 then
      (ab_getR w 10 x0 0).bind fun v15 =>
      (ab_ald w v15 4).bind fun v16 =>
      some (v16, w)
    else
    if x1 = 8 then
      (ab_getI w 10 x0 22).bind fun v17 =>
      some (v17, w)
    else
    if x1 = 9 then
      (ab_getR w 10 x0 0).bind fun v18 =>
      (ab_ald w v18 1).bind fun v19 =>
      some (v19, w)
    else
    ab_b2 (sX10_errs x0 (-1000000001) w) fun v20 w21 =>
    some (v20, w21)
  else none
def sX10_told (x0 : Nat) (x1 : Int32) (w : ab_W) : Option (Int32 × ab_W) :=
  if ab_is w 10 x0 = true then
    ab_b2 (sX10_in x1 1 5 w) fun v1 w2 =>
    if v1 = 0 then
      ab_b2 (sX10_errs x0 (-1000000001) w2) fun v3 w4 =>
      some (v3, w4)
    else
    (ab_getR w2 10 x0 6).bind fun v5 =>
    (ab_ald w2 v5 x1).bind fun v6 =>
    some (v6, w2)
  else none
def sX6_layFlat_100 (k25 : Nat → Int32 → Int32 → Int32 → Int32 → Int32 → Int32 → Int32 → ab_W → Option (ab_W)) (x0 : Nat) (x1 : Int32) (x2 : Int32) (x3 : Int32) (x4 : Int32) (x5 : Int32) (x6 : Int32) (x7 : Int32) (w : ab_W) : Option (ab_W) :=
    k25 x0 x1 x2 x3 (if x2 < x4 then x2 else x4) (if x5 < x2 then x2 else x5) x6 (x7 + 1) w
def sX6_layFlat_64 (k25 : Nat → Int32 → Int32 → Int32 → Int32 → Int32 → Int32 → Int32 → ab_W → Option (ab_W)) (x0 : Nat) (x1 : Int32) (x2 : Int32) (x3 : Int32) (x4 : Int32) (x5 : Int32) (x6 : Int32) (x7 : Int32) (w : ab_W) : Option (ab_W) :=
    if x2 < 0 then
      sX6_layFlat_100 k25 x0 x1 x2 x3 x4 x5 x6 x7 w
    else
    (ab_getR w 6 x0 2).bind fun v1 =>
    (ab_len w v1).bind fun v2 =>
    if x2 < v2 then
      (ab_getR w 6 x0 2).bind fun v3 =>
      (ab_ald w v3 x2).bind fun v4 =>
      (ab_ast w v3 x2 (v4 + 1)).bind fun w5 =>
      (ab_getR w5 6 x0 2).bind fun v6 =>
      (ab_ald w5 v6 x2).bind fun v7 =>
      sX6_layFlat_100 k25 x0 x1 x2 x3 x4 x5 (if x6 < v7 then v7 else x6) x7 w5
    else
    sX6_layFlat_100 k25 x0 x1 x2 x3 x4 x5 x6 x7 w
def sX6_layFlat_55 (k25 : Nat → Int32 → Int32 → Int32 → Int32 → Int32 → Int32 → Int32 → ab_W → Option (ab_W)) (x0 : Nat) (x1 : Int32) (x2 : Int32) (x3 : Int32) (x4 : Int32) (x5 : Int32) (x6 : Int32) (x7 : Int32) (w : ab_W) : Option (ab_W) :=
    if 0 < x7 then
      sX6_layFlat_64 k25 x0 x1 (x2 + x3) x3 x4 x5 x6 x7 w
    else
    sX6_layFlat_64 k25 x0 x1 x2 x3 x4 x5 x6 x7 w
def sX6_layFlat_25 : Nat → Nat → Int32 → Int32 → Int32 → Int32 → Int32 → Int32 → Int32 → ab_W → Option (ab_W)
  | 0, _, _, _, _, _, _, _, _, _ => none
  | n + 1, x0, x1, x2, x3, x4, x5, x6, x7, w =>
    if x7 < 8 then
      if 0 < x7 then
        if ((x1 >>> ((x7 - 1) &&& 31)) &&& 1) = 1 then
          sX6_layFlat_64 (sX6_layFlat_25 n) x0 x1 x2 (-x3) x4 x5 x6 x7 w
        else
        sX6_layFlat_55 (sX6_layFlat_25 n) x0 x1 x2 x3 x4 x5 x6 x7 w
      else
      sX6_layFlat_55 (sX6_layFlat_25 n) x0 x1 x2 x3 x4 x5 x6 x7 w
    else
    (ab_getR w 6 x0 0).bind fun v1 =>
    (ab_ast w v1 x1 ((x5 - x4) + 1)).bind fun w2 =>
    (ab_getR w2 6 x0 1).bind fun v3 =>
    (ab_ast w2 v3 x1 x6).bind fun w4 =>
    some w4
def sX6_layFlat (x0 : Nat) (x1 : Int32) (w : ab_W) : Option (ab_W) :=
  if ab_is w 6 x0 = true then
    (ab_getR w 6 x0 2).bind fun v1 =>
    (sJ7_fill_53178 v1 0 w).bind fun w2 =>
    sX6_layFlat_25 1000 x0 x1 8 1 8 8 0 0 w2
  else none
