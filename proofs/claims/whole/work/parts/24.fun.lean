def b_X2_countBelow_5 : Nat → Nat → Int32 → Int32 → Int32 → sM → Option Int32
  | 0, _, _, _, _, _ => none
  | n + 1, t0, v1, v2, v3, σ =>
    if v3 ≤ 0 then
    (some v2)
  else
    (if (σ t0 2) < (v2 + v3) then
      (b_X2_countBelow_5 n t0 v1 v2 (v3 >>> ((1 : Int32) &&& 31)) σ)
    else
      (chk (inb ((v2 + v3) - (1 : Int32)) 120) (if v1 ≤ (σ (t0 + 1) (((v2 + v3) - (1 : Int32))).toNatClampNeg) then
        (b_X2_countBelow_5 n t0 v1 v2 (v3 >>> ((1 : Int32) &&& 31)) σ)
      else
        (b_X2_countBelow_5 n t0 v1 (v2 + v3) (v3 >>> ((1 : Int32) &&& 31)) σ))))
def f_X2_countBelow (t0 : Nat) (v1 : Int32) (σ : sM) : Option Int32 :=
    b_X2_countBelow_5 FU t0 v1 (0 : Int32) (64 : Int32) σ
def f_X2_countUpTo (t0 : Nat) (v1 : Int32) (σ : sM) : Option Int32 :=
    rthn (f_X2_countBelow t0 v1 σ) (fun vr1 => if (σ t0 2) ≤ vr1 then
    (some vr1)
  else
    (chk (inb vr1 120) (if (σ (t0 + 1) (vr1).toNatClampNeg) = v1 then
      (some (vr1 + (1 : Int32)))
    else
      (some vr1))))
def b_X2_placeNear_25 (v2 : Int32) (v3 : Int32) (v4 : Int32) (vs0 : Int32) (σ : sM) : Option Int32 :=
    if v2 = (102 : Int32) then
    (if ((if v4 < vs0 then v4 else vs0) - (1 : Int32)) < v3 then
      (some (-1 : Int32))
    else
      (some ((if v4 < vs0 then v4 else vs0) - (1 : Int32))))
  else
    (if v2 = (108 : Int32) then
      (if ((if v4 < vs0 then v4 else vs0) - (1 : Int32)) < v3 then
        (some (-1 : Int32))
      else
        (some ((if v4 < vs0 then v4 else vs0) - (1 : Int32))))
    else
      (if v4 ≤ (if vs0 < v3 then v3 else vs0) then
        (some (-1 : Int32))
      else
        (some (if vs0 < v3 then v3 else vs0))))
def f_X2_placeNear (t0 : Nat) (v1 : Int32) (v2 : Int32) (v3 : Int32) (v4 : Int32) (σ : sM) : Option Int32 :=
    if v2 = (102 : Int32) then
    (rthn (f_X2_countUpTo t0 v1 σ) (fun vr2 => b_X2_placeNear_25 v2 v3 v4 vr2 σ))
  else
    (if v2 = (104 : Int32) then
      (rthn (f_X2_countUpTo t0 v1 σ) (fun vr5 => b_X2_placeNear_25 v2 v3 v4 vr5 σ))
    else
      (rthn (f_X2_countBelow t0 v1 σ) (fun vr4 => b_X2_placeNear_25 v2 v3 v4 vr4 σ)))
def f_X0_isBelow (v0 : Int32) (v1 : Int32) (v2 : Int32) (σ : sM) : Option Int32 :=
    if v2 = 0 then
    (if v1 ≤ v0 then
      (some (0 : Int32))
    else
      (some (1 : Int32)))
  else
    (if v1 < v0 then
      (some (0 : Int32))
    else
      (some (1 : Int32)))
def b_X0_isSplitSound_90 (t0 : Nat) (v1 : Int32) (v2 : Int32) (v4 : Int32) (σ : sM) : Option Int32 :=
    if v4 < 0 then
    (some (1 : Int32))
  else
    (chk (inb v4 120) (rthn (f_X0_isBelow (σ (t0 + 1) (v4).toNatClampNeg) v1 v2 σ) (fun vr15 => if vr15 = 0 then
      (some (1 : Int32))
    else
      (some (0 : Int32)))))
def b_X0_isSplitSound_67 (t0 : Nat) (v1 : Int32) (v2 : Int32) (v3 : Int32) (v4 : Int32) (vs0 : Int32) (vs1 : Int32) (σ : sM) : Option Int32 :=
    if vs0 = vs1 then
    (if v3 < 0 then
      (b_X0_isSplitSound_90 t0 v1 v2 v4 σ)
    else
      (chk (inb v3 120) (rthn (f_X0_isBelow (σ (t0 + 1) (v3).toNatClampNeg) v1 v2 σ) (fun vr11 => if vr11 = 0 then
        (some (0 : Int32))
      else
        (b_X0_isSplitSound_90 t0 v1 v2 v4 σ)))))
  else
    (some (0 : Int32))
def b_X0_isSplitSound_35 (t0 : Nat) (v1 : Int32) (v2 : Int32) (v3 : Int32) (ts0 : Nat) (vs1 : Int32) (vs2 : Int32) (σ : sM) : Option Int32 :=
    rthn (f_X2_placeNear ts0 vs1 vs2 (0 : Int32) (σ t0 2) σ) (fun vr6 => if (σ t0 2) ≤ (v3 + (1 : Int32)) then
    (b_X0_isSplitSound_67 t0 v1 v2 v3 vr6 vr6 (-1 : Int32) σ)
  else
    (b_X0_isSplitSound_67 t0 v1 v2 v3 vr6 vr6 (v3 + (1 : Int32)) σ))
def f_X0_isSplitSound (t0 : Nat) (v1 : Int32) (v2 : Int32) (σ : sM) : Option Int32 :=
    if v2 = 0 then
    (rthn (f_X2_placeNear t0 v1 (108 : Int32) (0 : Int32) (σ t0 2) σ) (fun vr2 => if v2 = 0 then
      (b_X0_isSplitSound_35 t0 v1 v2 vr2 t0 v1 (99 : Int32) σ)
    else
      (b_X0_isSplitSound_35 t0 v1 v2 vr2 t0 v1 (104 : Int32) σ)))
  else
    (rthn (f_X2_placeNear t0 v1 (102 : Int32) (0 : Int32) (σ t0 2) σ) (fun vr4 => if v2 = 0 then
      (b_X0_isSplitSound_35 t0 v1 v2 vr4 t0 v1 (99 : Int32) σ)
    else
      (b_X0_isSplitSound_35 t0 v1 v2 vr4 t0 v1 (104 : Int32) σ)))
def b_X0_areNearKeysSound_38 (K2 : Nat → Int32 → sM → Option Int32) : Nat → Nat → Int32 → Int32 → Int32 → sM → Option Int32
  | 0, _, _, _, _, _ => none
  | n + 1, t1, v2, v3, v4, σ =>
    if (1 : Int32) < v4 then
    (K2 t1 (v2 + 1) σ)
  else
    (rthn (f_X0_isSplitSound t1 (v3 + v4) (1 : Int32) σ) (fun vr7 => if vr7 = 0 then
      (some (0 : Int32))
    else
      (rthn (f_X0_isSplitSound t1 (v3 + v4) (0 : Int32) σ) (fun vr9 => if vr9 = 0 then
        (some (0 : Int32))
      else
        (b_X0_areNearKeysSound_38 K2 n t1 v2 v3 (v4 + 1) σ)))))
def b_X0_areNearKeysSound_2 : Nat → Nat → Int32 → sM → Option Int32
  | 0, _, _, _ => none
  | n + 1, t1, v2, σ =>
    if (σ t1 2) ≤ v2 then
    (some (1 : Int32))
  else
    (chk (inb v2 120) (if v2 ≤ 0 then
      (b_X0_areNearKeysSound_38 (b_X0_areNearKeysSound_2 n) FU t1 v2 (σ (t1 + 1) (v2).toNatClampNeg) (-1 : Int32) σ)
    else
      (chk (inb (v2 - (1 : Int32)) 120) (if (σ (t1 + 1) ((v2 - (1 : Int32))).toNatClampNeg) < (σ (t1 + 1) (v2).toNatClampNeg) then
        (b_X0_areNearKeysSound_38 (b_X0_areNearKeysSound_2 n) FU t1 v2 (σ (t1 + 1) (v2).toNatClampNeg) (-1 : Int32) σ)
      else
        (some (0 : Int32))))))
def f_X0_areNearKeysSound (t1 : Nat) (σ : sM) : Option Int32 :=
    b_X0_areNearKeysSound_2 FU t1 (0 : Int32) σ
def f_X2_becomeCopy (t0 : Nat) (t1 : Nat) (σ : sM) : Option (Unit × sM) :=
    stl (va_up σ t0 (upd (σ t0) 2 (σ t1 2))) (fun σ1 => chk (cpb (0 : Int32) (0 : Int32) (σ1 t0 2) 120 120) (stl (va_up σ1 (t0 + 1) (va_cpy (σ1 (t1 + 1)) (σ1 (t0 + 1)) ((0 : Int32)).toNatClampNeg ((0 : Int32)).toNatClampNeg ((σ1 t0 2)).toNatClampNeg)) (fun σ3 => chk (cpb (0 : Int32) (0 : Int32) (σ3 t0 2) 120 120) (stl (va_up σ3 (t0 + 2) (va_cpy (σ3 (t1 + 2)) (σ3 (t0 + 2)) ((0 : Int32)).toNatClampNeg ((0 : Int32)).toNatClampNeg ((σ3 t0 2)).toNatClampNeg)) (fun σ5 => some ((), σ5))))))
def f_X2_hasSameAt (t0 : Nat) (v1 : Int32) (t2 : Nat) (v3 : Int32) (σ : sM) : Option Int32 :=
    chk (inb v1 120) (chk (inb v3 120) (if (σ (t0 + 1) (v1).toNatClampNeg) = (σ (t2 + 1) (v3).toNatClampNeg) then
    (chk (inb v1 120) (chk (inb v3 120) (if (σ (t0 + 2) (v1).toNatClampNeg) = (σ (t2 + 2) (v3).toNatClampNeg) then
      (some (1 : Int32))
    else
      (some (0 : Int32)))))
  else
    (some (0 : Int32))))
def f_X2_dropPlaces (t0 : Nat) (v1 : Int32) (v2 : Int32) (σ : sM) : Option (Unit × sM) :=
    if v1 < 0 then
    (some ((), σ))
  else
    (if v2 ≤ v1 then
      (some ((), σ))
    else
      (if v2 ≤ (σ t0 2) then
        (chk (cpb v2 v1 ((σ t0 2) - v2) 120 120) (stl (va_up σ (t0 + 1) (va_cpy (σ (t0 + 1)) (σ (t0 + 1)) (v2).toNatClampNeg (v1).toNatClampNeg (((σ t0 2) - v2)).toNatClampNeg)) (fun σ5 => chk (cpb v2 v1 ((σ5 t0 2) - v2) 120 120) (stl (va_up σ5 (t0 + 2) (va_cpy (σ5 (t0 + 2)) (σ5 (t0 + 2)) (v2).toNatClampNeg (v1).toNatClampNeg (((σ5 t0 2) - v2)).toNatClampNeg)) (fun σ7 => stl (va_up σ7 t0 (upd (σ7 t0) 2 ((σ7 t0 2) - (v2 - v1)))) (fun σ8 => some ((), σ8)))))))
      else
        (some ((), σ))))
def b_X0_arePollsSoundFrom_53 (K10 : Nat → Int32 → Int32 → sM → Option (Int32 × sM)) (t1 : Nat) (v2 : Int32) (v3 : Int32) (vs0 : Int32) (σ : sM) : Option (Int32 × sM) :=
    if v2 = 0 then
    (rthn (f_X2_hasSameAt 18 vs0 t1 v3 σ) (fun vr7 => if vr7 = 0 then
      (some ((0 : Int32), σ))
    else
      (wthn (f_X2_dropPlaces 18 vs0 (vs0 + (1 : Int32)) σ) (fun _ σ9 => K10 t1 v2 (v3 + 1) σ9))))
  else
    (rthn (f_X2_hasSameAt 18 vs0 t1 vs0 σ) (fun vr10 => if vr10 = 0 then
      (some ((0 : Int32), σ))
    else
      (wthn (f_X2_dropPlaces 18 vs0 (vs0 + (1 : Int32)) σ) (fun _ σ12 => K10 t1 v2 (v3 + 1) σ12))))
def b_X0_arePollsSoundFrom_10 : Nat → Nat → Int32 → Int32 → sM → Option (Int32 × sM)
  | 0, _, _, _, _ => none
  | n + 1, t1, v2, v3, σ =>
    if (σ t1 2) ≤ v3 then
    (if (σ 18 2) = 0 then
      (some ((1 : Int32), σ))
    else
      (some ((0 : Int32), σ)))
  else
    (if (σ 18 2) = ((σ t1 2) - v3) then
      (if v2 = 0 then
        (b_X0_arePollsSoundFrom_53 (b_X0_arePollsSoundFrom_10 n) t1 v2 v3 (0 : Int32) σ)
      else
        (b_X0_arePollsSoundFrom_53 (b_X0_arePollsSoundFrom_10 n) t1 v2 v3 ((σ 18 2) - (1 : Int32)) σ))
    else
      (some ((0 : Int32), σ)))
def f_X0_arePollsSoundFrom (t1 : Nat) (v2 : Int32) (σ : sM) : Option (Int32 × sM) :=
    wthn (f_X2_becomeCopy 18 t1 σ) (fun _ σ1 => b_X0_arePollsSoundFrom_10 FU t1 v2 (0 : Int32) σ1)
def f_X0_arePollsSound (t1 : Nat) (σ : sM) : Option (Int32 × sM) :=
    wthn (f_X0_arePollsSoundFrom t1 (0 : Int32) σ) (fun vr1 σ1 => if vr1 = 0 then
    (some ((0 : Int32), σ1))
  else
    (wthn (f_X0_arePollsSoundFrom t1 (1 : Int32) σ1) (fun vr3 σ3 => if vr3 = 0 then
      (some ((0 : Int32), σ3))
    else
      (some ((1 : Int32), σ3)))))
def b_X2_set_51 (t0 : Nat) (v1 : Int32) (v2 : Int32) (v3 : Int32) (σ : sM) : Option (Int32 × sM) :=
    if (σ t0 2) < (120 : Int32) then
    (chk (cpb v3 (v3 + (1 : Int32)) ((σ t0 2) - v3) 120 120) (stl (va_up σ (t0 + 1) (va_cpy (σ (t0 + 1)) (σ (t0 + 1)) (v3).toNatClampNeg ((v3 + (1 : Int32))).toNatClampNeg (((σ t0 2) - v3)).toNatClampNeg)) (fun σ13 => chk (cpb v3 (v3 + (1 : Int32)) ((σ13 t0 2) - v3) 120 120) (stl (va_up σ13 (t0 + 2) (va_cpy (σ13 (t0 + 2)) (σ13 (t0 + 2)) (v3).toNatClampNeg ((v3 + (1 : Int32))).toNatClampNeg (((σ13 t0 2) - v3)).toNatClampNeg)) (fun σ15 => chk (inb v3 120) (stl (va_up σ15 (t0 + 1) (upd (σ15 (t0 + 1)) (v3).toNatClampNeg v1)) (fun σ17 => chk (inb v3 120) (stl (va_up σ17 (t0 + 2) (upd (σ17 (t0 + 2)) (v3).toNatClampNeg v2)) (fun σ19 => stl (va_up σ19 t0 (upd (σ19 t0) 2 ((σ19 t0 2) + (1 : Int32)))) (fun σ20 => some ((1 : Int32), σ20)))))))))))
  else
    (some ((0 : Int32), σ))
def f_X2_set (t0 : Nat) (v1 : Int32) (v2 : Int32) (σ : sM) : Option (Int32 × sM) :=
    rthn (f_X2_countBelow t0 v1 σ) (fun vr1 => if (σ t0 2) ≤ vr1 then
    (b_X2_set_51 t0 v1 v2 vr1 σ)
  else
    (chk (inb vr1 120) (if (σ (t0 + 1) (vr1).toNatClampNeg) = v1 then
      (chk (inb vr1 120) (if (σ (t0 + 2) (vr1).toNatClampNeg) = v2 then
        (chk (inb vr1 120) (stl (va_up σ (t0 + 2) (upd (σ (t0 + 2)) (vr1).toNatClampNeg v2)) (fun σ8 => some ((0 : Int32), σ8))))
      else
        (chk (inb vr1 120) (stl (va_up σ (t0 + 2) (upd (σ (t0 + 2)) (vr1).toNatClampNeg v2)) (fun σ10 => some ((1 : Int32), σ10))))))
    else
      (b_X2_set_51 t0 v1 v2 vr1 σ))))
def b_X1_addKeysTo_2 : Nat → Nat → Nat → Int32 → sM → Option (Unit × sM)
  | 0, _, _, _, _ => none
  | n + 1, t0, t1, v2, σ =>
    if (σ t0 0) ≤ v2 then
    (some ((), σ))
  else
    (chk (inb v2 30) (wthn (f_X2_set t1 (σ (t0 + 2) (v2).toNatClampNeg) (0 : Int32) σ) (fun vr3 σ3 => b_X1_addKeysTo_2 n t0 t1 (v2 + 1) σ3)))
def f_X1_addKeysTo (t0 : Nat) (t1 : Nat) (σ : sM) : Option (Unit × sM) :=
    b_X1_addKeysTo_2 FU t0 t1 (0 : Int32) σ
def f_X0_countKeys (t1 : Nat) (t2 : Nat) (σ : sM) : Option (Int32 × sM) :=
    stl (va_up σ 15 (upd (σ 15) 2 (0 : Int32))) (fun σ1 => wthn (f_X1_addKeysTo t1 15 σ1) (fun _ σ2 => wthn (f_X1_addKeysTo t2 15 σ2) (fun _ σ3 => some ((σ3 15 2), σ3))))
def f_X0_countCommonKeys (t1 : Nat) (t2 : Nat) (σ : sM) : Option (Int32 × sM) :=
    wthn (f_X0_countKeys t1 t1 σ) (fun vr1 σ1 => wthn (f_X0_countKeys t2 t2 σ1) (fun vr2 σ2 => wthn (f_X0_countKeys t1 t2 σ2) (fun vr3 σ3 => some (((vr1 + vr2) - vr3), σ3))))
def f_X2_placeOf (t0 : Nat) (v1 : Int32) (σ : sM) : Option Int32 :=
    rthn (f_X2_countBelow t0 v1 σ) (fun vr1 => if (σ t0 2) ≤ vr1 then
    (some (-1 : Int32))
  else
    (chk (inb vr1 120) (if (σ (t0 + 1) (vr1).toNatClampNeg) = v1 then
      (some vr1)
    else
      (some (-1 : Int32)))))
def b_X2_countMissingIn_4 : Nat → Nat → Nat → Int32 → Int32 → sM → Option Int32
  | 0, _, _, _, _, _ => none
  | n + 1, t0, t1, v2, v3, σ =>
    if (σ t0 2) ≤ v3 then
    (some v2)
  else
    (chk (inb v3 120) (rthn (f_X2_placeOf t1 (σ (t0 + 1) (v3).toNatClampNeg) σ) (fun vr3 => if 0 ≤ vr3 then
      (b_X2_countMissingIn_4 n t0 t1 v2 (v3 + 1) σ)
    else
      (b_X2_countMissingIn_4 n t0 t1 (v2 + 1) (v3 + 1) σ))))
def f_X2_countMissingIn (t0 : Nat) (t1 : Nat) (σ : sM) : Option Int32 :=
    b_X2_countMissingIn_4 FU t0 t1 (0 : Int32) (0 : Int32) σ
def f_X0_hasRoom (t1 : Nat) (t2 : Nat) (t3 : Nat) (σ : sM) : Option (Int32 × sM) :=
    wthn (f_X0_countKeys t2 t3 σ) (fun vr1 σ1 => rthn (f_X2_countMissingIn 15 t1 σ1) (fun vr2 => if (60 : Int32) < ((σ1 t1 2) + vr2) then
    (some ((0 : Int32), σ1))
  else
    (some ((1 : Int32), σ1))))
def f_X2_mix (v0 : Int32) (v1 : Int32) (v2 : Int32) (σ : sM) : Option Int32 :=
    if v2 = (115 : Int32) then
    (some (v0 + v1))
  else
    (if v2 = (103 : Int32) then
      (some (if v0 < v1 then v1 else v0))
    else
      (some (if v1 < v0 then v1 else v0)))
def b_X2_takeIn_2 : Nat → Nat → Nat → Int32 → Int32 → sM → Option (Unit × sM)
  | 0, _, _, _, _, _ => none
  | n + 1, t0, t1, v2, v3, σ =>
    if (σ t1 2) ≤ v3 then
    (some ((), σ))
  else
    (chk (inb v3 120) (chk (inb v3 120) (rthn (f_X2_placeOf t0 (σ (t1 + 1) (v3).toNatClampNeg) σ) (fun vr4 => if 0 ≤ vr4 then
      (chk (inb vr4 120) (rthn (f_X2_mix (σ (t0 + 2) (vr4).toNatClampNeg) (σ (t1 + 2) (v3).toNatClampNeg) v2 σ) (fun vr7 => wthn (f_X2_set t0 (σ (t1 + 1) (v3).toNatClampNeg) vr7 σ) (fun vr8 σ8 => b_X2_takeIn_2 n t0 t1 v2 (v3 + 1) σ8))))
    else
      (wthn (f_X2_set t0 (σ (t1 + 1) (v3).toNatClampNeg) (σ (t1 + 2) (v3).toNatClampNeg) σ) (fun vr9 σ9 => b_X2_takeIn_2 n t0 t1 v2 (v3 + 1) σ9))))))
def f_X2_takeIn (t0 : Nat) (t1 : Nat) (v2 : Int32) (σ : sM) : Option (Unit × sM) :=
    b_X2_takeIn_2 FU t0 t1 v2 (0 : Int32) σ
def b_X2_isSame_15 : Nat → Nat → Nat → Int32 → sM → Option Int32
  | 0, _, _, _, _ => none
  | n + 1, t0, t1, v2, σ =>
    if (σ t0 2) ≤ v2 then
    (some (1 : Int32))
  else
    (rthn (f_X2_hasSameAt t0 v2 t1 v2 σ) (fun vr3 => if vr3 = 0 then
      (some (0 : Int32))
    else
      (b_X2_isSame_15 n t0 t1 (v2 + 1) σ)))
def f_X2_isSame (t0 : Nat) (t1 : Nat) (σ : sM) : Option Int32 :=
    if (σ t0 2) = (σ t1 2) then
    (b_X2_isSame_15 FU t0 t1 (0 : Int32) σ)
  else
    (some (0 : Int32))
def f_X0_isMixAlike (t1 : Nat) (t2 : Nat) (v3 : Int32) (σ : sM) : Option (Int32 × sM) :=
    wthn (f_X2_becomeCopy 18 t2 σ) (fun _ σ1 => wthn (f_X2_takeIn 18 t1 v3 σ1) (fun _ σ2 => wthn (f_X2_becomeCopy 21 t1 σ2) (fun _ σ3 => wthn (f_X2_takeIn 21 t2 v3 σ3) (fun _ σ4 => rthn (f_X2_isSame 18 21 σ4) (fun vr5 => chk (isb vr5) (some (vr5, σ4)))))))
def f_X2_drop (t0 : Nat) (v1 : Int32) (σ : sM) : Option (Int32 × sM) :=
    rthn (f_X2_countBelow t0 v1 σ) (fun vr1 => if (σ t0 2) ≤ vr1 then
    (some ((0 : Int32), σ))
  else
    (chk (inb vr1 120) (if (σ (t0 + 1) (vr1).toNatClampNeg) = v1 then
      (wthn (f_X2_dropPlaces t0 vr1 (vr1 + (1 : Int32)) σ) (fun _ σ5 => some ((1 : Int32), σ5)))
    else
      (some ((0 : Int32), σ)))))
def b_X2_change_56 (t0 : Nat) (v1 : Int32) (v2 : Int32) (v3 : Int32) (v4 : Int32) (σ : sM) : Option (Int32 × sM) :=
    if v1 = (120 : Int32) then
    (if 0 ≤ v4 then
      (wthn (f_X2_set t0 v2 v3 σ) (fun vr18 σ18 => chk (isb vr18) (some (vr18, σ18))))
    else
      (some ((0 : Int32), σ)))
  else
    (wthn (f_X2_set t0 v2 v3 σ) (fun vr15 σ15 => chk (isb vr15) (some (vr15, σ15))))
def f_X2_change (t0 : Nat) (v1 : Int32) (v2 : Int32) (v3 : Int32) (σ : sM) : Option (Int32 × sM) :=
    if v1 = (114 : Int32) then
    (wthn (f_X2_drop t0 v2 σ) (fun vr12 σ12 => chk (isb vr12) (some (vr12, σ12))))
  else
    (rthn (f_X2_placeOf t0 v2 σ) (fun vr2 => if v1 = (115 : Int32) then
      (if vr2 < 0 then
        (if v1 = (97 : Int32) then
          (if 0 ≤ vr2 then
            (some ((0 : Int32), σ))
          else
            (b_X2_change_56 t0 v1 v2 v3 vr2 σ))
        else
          (b_X2_change_56 t0 v1 v2 v3 vr2 σ))
      else
        (chk (inb vr2 120) (wthn (f_X2_set t0 v2 ((σ (t0 + 2) (vr2).toNatClampNeg) + v3) σ) (fun vr10 σ10 => chk (isb vr10) (some (vr10, σ10))))))
    else
      (if v1 = (97 : Int32) then
        (if 0 ≤ vr2 then
          (some ((0 : Int32), σ))
        else
          (b_X2_change_56 t0 v1 v2 v3 vr2 σ))
      else
        (b_X2_change_56 t0 v1 v2 v3 vr2 σ))))
def b_X1_playOn_4 : Nat → Nat → Nat → Int32 → Int32 → sM → Option (Int32 × sM)
  | 0, _, _, _, _, _ => none
  | n + 1, t0, t1, v2, v3, σ =>
    if (σ t0 0) ≤ v3 then
    (some (v2, σ))
  else
    (chk (inb v3 30) (chk (inb v3 30) (chk (inb v3 30) (wthn (f_X2_change t1 (σ (t0 + 1) (v3).toNatClampNeg) (σ (t0 + 2) (v3).toNatClampNeg) (σ (t0 + 3) (v3).toNatClampNeg) σ) (fun vr5 σ5 => if vr5 = 0 then
      (b_X1_playOn_4 n t0 t1 v2 (v3 + 1) σ5)
    else
      (b_X1_playOn_4 n t0 t1 (v2 + 1) (v3 + 1) σ5))))))
def f_X1_playOn (t0 : Nat) (t1 : Nat) (σ : sM) : Option (Int32 × sM) :=
    b_X1_playOn_4 FU t0 t1 (0 : Int32) (0 : Int32) σ
def f_X0_isOrderFree (t1 : Nat) (t2 : Nat) (t3 : Nat) (σ : sM) : Option (Int32 × sM) :=
    wthn (f_X0_countCommonKeys t1 t2 σ) (fun vr1 σ1 => if vr1 ≤ 0 then
    (wthn (f_X2_becomeCopy 18 t3 σ1) (fun _ σ3 => wthn (f_X1_playOn t1 18 σ3) (fun vr4 σ4 => wthn (f_X1_playOn t2 18 σ4) (fun vr5 σ5 => wthn (f_X2_becomeCopy 21 t3 σ5) (fun _ σ6 => wthn (f_X1_playOn t2 21 σ6) (fun vr7 σ7 => wthn (f_X1_playOn t1 21 σ7) (fun vr8 σ8 => rthn (f_X2_isSame 18 21 σ8) (fun vr9 => chk (isb vr9) (some (vr9, σ8))))))))))
  else
    (some ((1 : Int32), σ1)))
def f_X1_add (t0 : Nat) (v1 : Int32) (v2 : Int32) (v3 : Int32) (σ : sM) : Option (Unit × sM) :=
    if (σ t0 0) < (30 : Int32) then
    (chk (inb (σ t0 0) 30) (stl (va_up σ (t0 + 1) (upd (σ (t0 + 1)) ((σ t0 0)).toNatClampNeg (vp_nar .char v1))) (fun σ3 => chk (inb (σ3 t0 0) 30) (stl (va_up σ3 (t0 + 2) (upd (σ3 (t0 + 2)) ((σ3 t0 0)).toNatClampNeg v2)) (fun σ5 => chk (inb (σ5 t0 0) 30) (stl (va_up σ5 (t0 + 3) (upd (σ5 (t0 + 3)) ((σ5 t0 0)).toNatClampNeg v3)) (fun σ7 => stl (va_up σ7 t0 (upd (σ7 t0) 0 ((σ7 t0 0) + (1 : Int32)))) (fun σ8 => some ((), σ8)))))))))
  else
    (some ((), σ))
def b_X0_turnRound_24 : Nat → Nat → Nat → Int32 → sM → Option (Unit × sM)
  | 0, _, _, _, _ => none
  | n + 1, t2, t3, v4, σ =>
    if (σ 15 2) ≤ v4 then
    (some ((), σ))
  else
    (chk (inb v4 120) (rthn (f_X2_placeOf t2 (σ (15 + 1) (v4).toNatClampNeg) σ) (fun vr6 => if 0 ≤ vr6 then
      (chk (inb vr6 120) (wthn (f_X1_add t3 (112 : Int32) (σ (15 + 1) (v4).toNatClampNeg) (σ (t2 + 2) (vr6).toNatClampNeg) σ) (fun _ σ9 => b_X0_turnRound_24 n t2 t3 (v4 + 1) σ9)))
    else
      (wthn (f_X1_add t3 (114 : Int32) (σ (15 + 1) (v4).toNatClampNeg) (0 : Int32) σ) (fun _ σ10 => b_X0_turnRound_24 n t2 t3 (v4 + 1) σ10)))))
def f_X0_turnRound (t1 : Nat) (t2 : Nat) (t3 : Nat) (σ : sM) : Option (Unit × sM) :=
    stl (va_up σ 15 (upd (σ 15) 2 (0 : Int32))) (fun σ1 => wthn (f_X1_addKeysTo t1 15 σ1) (fun _ σ2 => stl (va_up σ2 t3 (upd (σ2 t3) 0 (0 : Int32))) (fun σ3 => b_X0_turnRound_24 FU t2 t3 (0 : Int32) σ3)))
def f_X0_isUndone (t1 : Nat) (t2 : Nat) (σ : sM) : Option (Int32 × sM) :=
    wthn (f_X0_turnRound t1 t2 40 σ) (fun _ σ1 => wthn (f_X2_becomeCopy 18 t2 σ1) (fun _ σ2 => wthn (f_X1_playOn t1 18 σ2) (fun vr3 σ3 => wthn (f_X1_playOn 40 18 σ3) (fun vr4 σ4 => rthn (f_X2_isSame 18 t2 σ4) (fun vr5 => chk (isb vr5) (some (vr5, σ4)))))))
def f_X4_chain (v0 : Int64) (v2 : Int32) (σ : sM) : Option Int64 :=
    some (((31 : Int64) * v0) + (v2.toInt64))
def b_X1_addTo_11 : Nat → Nat → Int64 → Int32 → sM → Option Int64
  | 0, _, _, _, _ => none
  | n + 1, t0, v1, v3, σ =>
    if (σ t0 0) ≤ v3 then
    (some v1)
  else
    (chk (inb v3 30) (rthn (f_X4_chain v1 (σ (t0 + 1) (v3).toNatClampNeg) σ) (fun vr4 => chk (inb v3 30) (rthn (f_X4_chain vr4 (σ (t0 + 2) (v3).toNatClampNeg) σ) (fun vr6 => chk (inb v3 30) (rthn (f_X4_chain vr6 (σ (t0 + 3) (v3).toNatClampNeg) σ) (fun vr8 => b_X1_addTo_11 n t0 vr8 (v3 + 1) σ)))))))
def f_X1_addTo (t0 : Nat) (v1 : Int64) (σ : sM) : Option Int64 :=
    rthn (f_X4_chain v1 (σ t0 0) σ) (fun vr1 => b_X1_addTo_11 FU t0 vr1 (0 : Int32) σ)
def f_X1_doStep (t0 : Nat) (v1 : Int32) (t2 : Nat) (σ : sM) : Option (Unit × sM) :=
    if v1 < 0 then
    (some ((), σ))
  else
    (if (σ t0 0) ≤ v1 then
      (some ((), σ))
    else
      (chk (inb v1 30) (chk (inb v1 30) (chk (inb v1 30) (wthn (f_X2_change t2 (σ (t0 + 1) (v1).toNatClampNeg) (σ (t0 + 2) (v1).toNatClampNeg) (σ (t0 + 3) (v1).toNatClampNeg) σ) (fun vr6 σ6 => some ((), σ6)))))))
def b_X2_addTo_11 : Nat → Nat → Int64 → Int32 → sM → Option Int64
  | 0, _, _, _, _ => none
  | n + 1, t0, v1, v3, σ =>
    if (σ t0 2) ≤ v3 then
    (some v1)
  else
    (chk (inb v3 120) (rthn (f_X4_chain v1 (σ (t0 + 1) (v3).toNatClampNeg) σ) (fun vr4 => chk (inb v3 120) (rthn (f_X4_chain vr4 (σ (t0 + 2) (v3).toNatClampNeg) σ) (fun vr6 => b_X2_addTo_11 n t0 vr6 (v3 + 1) σ)))))
def f_X2_addTo (t0 : Nat) (v1 : Int64) (σ : sM) : Option Int64 :=
    rthn (f_X4_chain v1 (σ t0 2) σ) (fun vr1 => b_X2_addTo_11 FU t0 vr1 (0 : Int32) σ)
def f_X3_beginIn (t0 : Nat) (t1 : Nat) (σ : sM) : Option Int32 :=
    if (σ t0 3) = 0 then
    (rthn (f_X2_countUpTo t1 (σ t0 2) σ) (fun vr2 => some vr2))
  else
    (rthn (f_X2_countBelow t1 (σ t0 2) σ) (fun vr3 => some vr3))
def f_X3_stopIn (t0 : Nat) (t1 : Nat) (σ : sM) : Option Int32 :=
    if (σ t0 5) = 0 then
    (rthn (f_X2_countBelow t1 (σ t0 4) σ) (fun vr2 => rthn (f_X3_beginIn t0 t1 σ) (fun vr3 => some (if vr2 < vr3 then vr3 else vr2))))
  else
    (rthn (f_X2_countUpTo t1 (σ t0 4) σ) (fun vr4 => rthn (f_X3_beginIn t0 t1 σ) (fun vr5 => some (if vr4 < vr5 then vr5 else vr4))))
def f_X3_countEntries (t0 : Nat) (σ : sM) : Option Int32 :=
    srcm (sSrc (σ t0 0))
    (some (-1 : Int32))
    (fun ts1 => rthn (f_X3_stopIn t0 ts1 σ) (fun vr2 => rthn (f_X3_beginIn t0 ts1 σ) (fun vr3 => some (vr2 - vr3))))
def b_X3_addTo_38 : Nat → Int64 → Nat → Int32 → Int32 → sM → Option Int64
  | 0, _, _, _, _, _ => none
  | n + 1, v1, t3, v4, v5, σ =>
    if v4 ≤ v5 then
    (some v1)
  else
    (chk (inb v5 120) (rthn (f_X4_chain v1 (σ (t3 + 1) (v5).toNatClampNeg) σ) (fun vr9 => b_X3_addTo_38 n vr9 t3 v4 (v5 + 1) σ)))
def f_X3_addTo (t0 : Nat) (v1 : Int64) (σ : sM) : Option Int64 :=
    srcm (sSrc (σ t0 0))
    (rthn (f_X4_chain v1 (-1 : Int32) σ) (fun vr2 => some vr2))
    (fun ts1 => rthn (f_X3_stopIn t0 ts1 σ) (fun vr3 => rthn (f_X3_countEntries t0 σ) (fun vr4 => rthn (f_X4_chain v1 vr4 σ) (fun vr5 => rthn (f_X3_beginIn t0 ts1 σ) (fun vr6 => b_X3_addTo_38 FU vr5 ts1 vr3 vr6 σ)))))
def b_X3_becomeCut_48 (t0 : Nat) (t1 : Nat) (v2 : Int32) (v3 : Int32) (v4 : Int32) (ts0 : Nat) (vs1 : Int32) (σ : sM) : Option (Unit × sM) :=
    chk (isb vs1) (stl (va_up σ ts0 (upd (σ ts0) 3 vs1)) (fun σ17 => if v2 = 0 then
    (stl (va_up σ17 t0 (upd (σ17 t0) 4 (σ17 t1 4))) (fun σ19 => if v2 = 0 then
      (chk (isb (σ19 t1 5)) (stl (va_up σ19 t0 (upd (σ19 t0) 5 (σ19 t1 5))) (fun σ22 => some ((), σ22))))
    else
      (chk (isb v4) (stl (va_up σ19 t0 (upd (σ19 t0) 5 v4)) (fun σ24 => some ((), σ24))))))
  else
    (stl (va_up σ17 t0 (upd (σ17 t0) 4 v3)) (fun σ25 => if v2 = 0 then
      (chk (isb (σ25 t1 5)) (stl (va_up σ25 t0 (upd (σ25 t0) 5 (σ25 t1 5))) (fun σ28 => some ((), σ28))))
    else
      (chk (isb v4) (stl (va_up σ25 t0 (upd (σ25 t0) 5 v4)) (fun σ30 => some ((), σ30))))))))
def f_X3_becomeCut (t0 : Nat) (t1 : Nat) (v2 : Int32) (v3 : Int32) (v4 : Int32) (σ : sM) : Option (Unit × sM) :=
    srcm (sSrc (σ t1 0))
    (stl (va_up σ t0 (upd (σ t0) 0 0)) (fun σ2 => stl (va_up σ2 t0 (upd (σ2 t0) 1 ((σ2 t1 1) + (1 : Int32)))) (fun σ3 => if v2 = 0 then
      (stl (va_up σ3 t0 (upd (σ3 t0) 2 v3)) (fun σ5 => if v2 = 0 then
        (b_X3_becomeCut_48 t0 t1 v2 v3 v4 t0 v4 σ5)
      else
        (b_X3_becomeCut_48 t0 t1 v2 v3 v4 t0 (σ5 t1 3) σ5)))
    else
      (stl (va_up σ3 t0 (upd (σ3 t0) 2 (σ3 t1 2))) (fun σ7 => if v2 = 0 then
        (b_X3_becomeCut_48 t0 t1 v2 v3 v4 t0 v4 σ7)
      else
        (b_X3_becomeCut_48 t0 t1 v2 v3 v4 t0 (σ7 t1 3) σ7))))))
    (fun ts1 => stl (va_up σ t0 (upd (σ t0) 0 (nI ts1))) (fun σ9 => stl (va_up σ9 t0 (upd (σ9 t0) 1 ((σ9 t1 1) + (1 : Int32)))) (fun σ10 => if v2 = 0 then
      (stl (va_up σ10 t0 (upd (σ10 t0) 2 v3)) (fun σ12 => if v2 = 0 then
        (b_X3_becomeCut_48 t0 t1 v2 v3 v4 t0 v4 σ12)
      else
        (b_X3_becomeCut_48 t0 t1 v2 v3 v4 t0 (σ12 t1 3) σ12)))
    else
      (stl (va_up σ10 t0 (upd (σ10 t0) 2 (σ10 t1 2))) (fun σ14 => if v2 = 0 then
        (b_X3_becomeCut_48 t0 t1 v2 v3 v4 t0 v4 σ14)
      else
        (b_X3_becomeCut_48 t0 t1 v2 v3 v4 t0 (σ14 t1 3) σ14))))))
def f_X3_becomeSpan (t0 : Nat) (t1 : Nat) (v2 : Int32) (v3 : Int32) (v4 : Int32) (v5 : Int32) (σ : sM) : Option (Unit × sM) :=
    stl (va_up σ t0 (upd (σ t0) 0 (nI t1))) (fun σ1 => stl (va_up σ1 t0 (upd (σ1 t0) 1 (0 : Int32))) (fun σ2 => stl (va_up σ2 t0 (upd (σ2 t0) 2 v2)) (fun σ3 => chk (isb v3) (stl (va_up σ3 t0 (upd (σ3 t0) 3 v3)) (fun σ5 => stl (va_up σ5 t0 (upd (σ5 t0) 4 v4)) (fun σ6 => chk (isb v5) (stl (va_up σ6 t0 (upd (σ6 t0) 5 v5)) (fun σ8 => some ((), σ8)))))))))
def b_X3_covers_36 (t0 : Nat) (v1 : Int32) (vs0 : Int32) (σ : sM) : Option Int32 :=
    if (σ t0 5) = 0 then
    (if v1 < (σ t0 4) then
      (if vs0 = 0 then
        (some (1 : Int32))
      else
        (some (0 : Int32)))
    else
      (if vs0 = 0 then
        (some (0 : Int32))
      else
        (some (0 : Int32))))
  else
    (if v1 ≤ (σ t0 4) then
      (if vs0 = 0 then
        (some (1 : Int32))
      else
        (some (0 : Int32)))
    else
      (if vs0 = 0 then
        (some (0 : Int32))
      else
        (some (0 : Int32))))
def f_X3_covers (t0 : Nat) (v1 : Int32) (σ : sM) : Option Int32 :=
    if (σ t0 3) = 0 then
    (if (σ t0 2) < v1 then
      (b_X3_covers_36 t0 v1 (0 : Int32) σ)
    else
      (b_X3_covers_36 t0 v1 (1 : Int32) σ))
  else
    (if (σ t0 2) ≤ v1 then
      (b_X3_covers_36 t0 v1 (0 : Int32) σ)
    else
      (b_X3_covers_36 t0 v1 (1 : Int32) σ))
def b_X3_hasJustItsSpan_51 (K26 : Nat → Nat → Int32 → Int32 → Int32 → sM → Option Int32) (t0 : Nat) (t1 : Nat) (v2 : Int32) (v3 : Int32) (v4 : Int32) (σ : sM) : Option Int32 :=
    chk (inb v4 120) (rthn (f_X3_covers t0 (σ (t1 + 1) (v4).toNatClampNeg) σ) (fun vr11 => if (0 : Int32) = vr11 then
    (K26 t0 t1 v2 v3 (v4 + 1) σ)
  else
    (some (0 : Int32))))
def b_X3_hasJustItsSpan_26 : Nat → Nat → Nat → Int32 → Int32 → Int32 → sM → Option Int32
  | 0, _, _, _, _, _, _ => none
  | n + 1, t0, t1, v2, v3, v4, σ =>
    if (σ t1 2) ≤ v4 then
    (some (1 : Int32))
  else
    (if v4 < v2 then
      (b_X3_hasJustItsSpan_51 (b_X3_hasJustItsSpan_26 n) t0 t1 v2 v3 v4 σ)
    else
      (if v3 ≤ v4 then
        (b_X3_hasJustItsSpan_51 (b_X3_hasJustItsSpan_26 n) t0 t1 v2 v3 v4 σ)
      else
        (chk (inb v4 120) (rthn (f_X3_covers t0 (σ (t1 + 1) (v4).toNatClampNeg) σ) (fun vr8 => if (1 : Int32) = vr8 then
          (b_X3_hasJustItsSpan_26 n t0 t1 v2 v3 (v4 + 1) σ)
        else
          (some (0 : Int32)))))))
def f_X3_hasJustItsSpan (t0 : Nat) (σ : sM) : Option Int32 :=
    srcm (sSrc (σ t0 0))
    (some (1 : Int32))
    (fun ts1 => rthn (f_X3_beginIn t0 ts1 σ) (fun vr2 => rthn (f_X3_stopIn t0 ts1 σ) (fun vr3 => b_X3_hasJustItsSpan_26 FU t0 ts1 vr2 vr3 (0 : Int32) σ)))
def b_X4_areMapsSound_2 : Nat → Int32 → sM → Option (Int32 × sM)
  | 0, _, _ => none
  | n + 1, v1, σ =>
    if (3 : Int32) ≤ v1 then
    (some ((1 : Int32), σ))
  else
    (chk (inb v1 3) (rthn (f_X0_areNearKeysSound (6 + 3 * v1.toNatClampNeg) σ) (fun vr3 => if vr3 = 0 then
      (some ((0 : Int32), σ))
    else
      (chk (inb v1 3) (wthn (f_X0_arePollsSound (6 + 3 * v1.toNatClampNeg) σ) (fun vr6 σ6 => if vr6 = 0 then
        (some ((0 : Int32), σ6))
      else
        (b_X4_areMapsSound_2 n (v1 + 1) σ6)))))))
def f_X4_areMapsSound (σ : sM) : Option (Int32 × sM) :=
    b_X4_areMapsSound_2 FU (0 : Int32) σ
def b_X4_areMixesSound_15 (K2 : Int32 → sM → Option (Int32 × sM)) : Nat → Int32 → Int32 → sM → Option (Int32 × sM)
  | 0, _, _, _ => none
  | n + 1, v1, v2, σ =>
    if (3 : Int32) ≤ v2 then
    (K2 (v1 + 1) σ)
  else
    (chk (inb v1 3) (chk (inb v2 3) (wthn (f_X0_isMixAlike (6 + 3 * v1.toNatClampNeg) (6 + 3 * v2.toNatClampNeg) (115 : Int32) σ) (fun vr5 σ5 => if vr5 = 0 then
      (some ((0 : Int32), σ5))
    else
      (chk (inb v1 3) (chk (inb v2 3) (wthn (f_X0_isMixAlike (6 + 3 * v1.toNatClampNeg) (6 + 3 * v2.toNatClampNeg) (103 : Int32) σ5) (fun vr9 σ9 => if vr9 = 0 then
        (some ((0 : Int32), σ9))
      else
        (chk (inb v1 3) (chk (inb v2 3) (wthn (f_X0_isMixAlike (6 + 3 * v1.toNatClampNeg) (6 + 3 * v2.toNatClampNeg) (108 : Int32) σ9) (fun vr13 σ13 => if vr13 = 0 then
          (some ((0 : Int32), σ13))
        else
          (b_X4_areMixesSound_15 K2 n v1 (v2 + 1) σ13)))))))))))))
def b_X4_areMixesSound_2 : Nat → Int32 → sM → Option (Int32 × sM)
  | 0, _, _ => none
  | n + 1, v1, σ =>
    if (3 : Int32) ≤ v1 then
    (some ((1 : Int32), σ))
  else
    (b_X4_areMixesSound_15 (b_X4_areMixesSound_2 n) FU v1 (v1 + (1 : Int32)) σ)
def f_X4_areMixesSound (σ : sM) : Option (Int32 × sM) :=
    b_X4_areMixesSound_2 FU (0 : Int32) σ
def b_X4_areOppositesSound_13 (K2 : Int32 → sM → Option (Int32 × sM)) : Nat → Int32 → Int32 → sM → Option (Int32 × sM)
  | 0, _, _, _ => none
  | n + 1, v1, v2, σ =>
    if (3 : Int32) ≤ v2 then
    (K2 (v1 + 1) σ)
  else
    (chk (inb v1 3) (chk (inb v2 3) (wthn (f_X0_isUndone (28 + 4 * v1.toNatClampNeg) (6 + 3 * v2.toNatClampNeg) σ) (fun vr5 σ5 => if vr5 = 0 then
      (some ((0 : Int32), σ5))
    else
      (b_X4_areOppositesSound_13 K2 n v1 (v2 + 1) σ5)))))
def b_X4_areOppositesSound_2 : Nat → Int32 → sM → Option (Int32 × sM)
  | 0, _, _ => none
  | n + 1, v1, σ =>
    if (3 : Int32) ≤ v1 then
    (some ((1 : Int32), σ))
  else
    (b_X4_areOppositesSound_13 (b_X4_areOppositesSound_2 n) FU v1 (0 : Int32) σ)
def f_X4_areOppositesSound (σ : sM) : Option (Int32 × sM) :=
    b_X4_areOppositesSound_2 FU (0 : Int32) σ
def b_X4_areOrdersFree_26 (K2 : Int32 → sM → Option (Int32 × sM)) (K15 : Int32 → Int32 → sM → Option (Int32 × sM)) : Nat → Int32 → Int32 → Int32 → sM → Option (Int32 × sM)
  | 0, _, _, _, _ => none
  | n + 1, v1, v2, v3, σ =>
    if (3 : Int32) ≤ v3 then
    (K15 v1 (v2 + 1) σ)
  else
    (chk (inb v1 3) (chk (inb v2 3) (chk (inb v3 3) (wthn (f_X0_isOrderFree (28 + 4 * v1.toNatClampNeg) (28 + 4 * v2.toNatClampNeg) (6 + 3 * v3.toNatClampNeg) σ) (fun vr7 σ7 => if vr7 = 0 then
      (some ((0 : Int32), σ7))
    else
      (b_X4_areOrdersFree_26 K2 K15 n v1 v2 (v3 + 1) σ7))))))
def b_X4_areOrdersFree_15 (K2 : Int32 → sM → Option (Int32 × sM)) : Nat → Int32 → Int32 → sM → Option (Int32 × sM)
  | 0, _, _, _ => none
  | n + 1, v1, v2, σ =>
    if (3 : Int32) ≤ v2 then
    (K2 (v1 + 1) σ)
  else
    (b_X4_areOrdersFree_26 K2 (b_X4_areOrdersFree_15 K2 n) FU v1 v2 (0 : Int32) σ)
def b_X4_areOrdersFree_2 : Nat → Int32 → sM → Option (Int32 × sM)
  | 0, _, _ => none
  | n + 1, v1, σ =>
    if (3 : Int32) ≤ v1 then
    (some ((1 : Int32), σ))
  else
    (b_X4_areOrdersFree_15 (b_X4_areOrdersFree_2 n) FU v1 (v1 + (1 : Int32)) σ)
def f_X4_areOrdersFree (σ : sM) : Option (Int32 × sM) :=
    b_X4_areOrdersFree_2 FU (0 : Int32) σ
def b_X4_areViewsSound_2 : Nat → Int32 → sM → Option Int32
  | 0, _, _ => none
  | n + 1, v1, σ =>
    if (4 : Int32) ≤ v1 then
    (some (1 : Int32))
  else
    (chk (inb v1 4) (rthn (f_X3_hasJustItsSpan (24 + v1.toNatClampNeg) σ) (fun vr3 => if vr3 = 0 then
      (some (0 : Int32))
    else
      (b_X4_areViewsSound_2 n (v1 + 1) σ))))
def f_X4_areViewsSound (σ : sM) : Option Int32 :=
    b_X4_areViewsSound_2 FU (0 : Int32) σ
def b_X4_checksum_62 : Nat → Int64 → Int32 → sM → Option Int64
  | 0, _, _, _ => none
  | n + 1, v1, v3, σ =>
    if (3 : Int32) ≤ v3 then
    (some v1)
  else
    (chk (inb v3 3) (rthn (f_X1_addTo (28 + 4 * v3.toNatClampNeg) v1 σ) (fun vr9 => b_X4_checksum_62 n vr9 (v3 + 1) σ)))
def b_X4_checksum_34 : Nat → Int64 → Int32 → sM → Option Int64
  | 0, _, _, _ => none
  | n + 1, v1, v3, σ =>
    if (4 : Int32) ≤ v3 then
    (b_X4_checksum_62 FU v1 (0 : Int32) σ)
  else
    (chk (inb v3 4) (rthn (f_X3_addTo (24 + v3.toNatClampNeg) v1 σ) (fun vr6 => b_X4_checksum_34 n vr6 (v3 + 1) σ)))
def b_X4_checksum_6 : Nat → Int64 → Int32 → sM → Option Int64
  | 0, _, _, _ => none
  | n + 1, v1, v3, σ =>
    if (3 : Int32) ≤ v3 then
    (b_X4_checksum_34 FU v1 (0 : Int32) σ)
  else
    (chk (inb v3 3) (rthn (f_X2_addTo (6 + 3 * v3.toNatClampNeg) v1 σ) (fun vr3 => b_X4_checksum_6 n vr3 (v3 + 1) σ)))
def f_X4_checksum (σ : sM) : Option Int64 :=
    b_X4_checksum_6 FU (7 : Int64) (0 : Int32) σ
def f_X4_mapAt (v1 : Int32) (σ : sM) : Option ((String ⊕ Nat) × sM) :=
    if v1 < 0 then
    (some (.inl "java/lang/IndexOutOfBoundsException", σ))
  else
    (if v1 < (3 : Int32) then
      (chk (inb v1 3) (some (.inr (6 + 3 * v1.toNatClampNeg), σ)))
    else
      (some (.inl "java/lang/IndexOutOfBoundsException", σ)))
def f_X4_isMixWay (v0 : Int32) (σ : sM) : Option Int32 :=
    if v0 = (115 : Int32) then
    (some (1 : Int32))
  else
    (if v0 = (103 : Int32) then
      (some (1 : Int32))
    else
      (if v0 = (108 : Int32) then
        (some (1 : Int32))
      else
        (some (0 : Int32))))
def f_X4_combine (v1 : Int32) (v2 : Int32) (v3 : Int32) (σ : sM) : Option ((String ⊕ Int32) × sM) :=
    thn (f_X4_mapAt v1 σ) (fun tr1 σ1 => chk (isTb tr1) (thn (f_X4_mapAt v2 σ1) (fun tr3 σ3 => chk (isTb tr3) (rthn (f_X4_isMixWay v3 σ3) (fun vr5 => if vr5 = 0 then
    (some (.inl "java/lang/IllegalArgumentException", σ3))
  else
    (if v1 = v2 then
      (some (.inl "java/lang/IllegalArgumentException", σ3))
    else
      (rthn (f_X2_countMissingIn tr1 tr3 σ3) (fun vr8 => if ((σ3 tr3 2) + vr8) ≤ (60 : Int32) then
        (wthn (f_X2_takeIn tr3 tr1 v3 σ3) (fun _ σ10 => some (.inr (σ10 tr3 2), σ10)))
      else
        (some (.inl "java/lang/IllegalStateException", σ3))))))))))
def f_X4_viewAt (v1 : Int32) (σ : sM) : Option ((String ⊕ Nat) × sM) :=
    if v1 < 0 then
    (some (.inl "java/lang/IndexOutOfBoundsException", σ))
  else
    (if v1 < (4 : Int32) then
      (chk (inb v1 4) (some (.inr (24 + v1.toNatClampNeg), σ)))
    else
      (some (.inl "java/lang/IndexOutOfBoundsException", σ)))
def f_X4_refuseClosed (t0 : Nat) (σ : sM) : Option ((String ⊕ Unit) × sM) :=
    srcm (sSrc (σ t0 0))
    (some (.inl "java/util/NoSuchElementException", σ))
    (fun ts1 => some (.inr (), σ))
def f_X4_cut (v1 : Int32) (v2 : Int32) (v3 : Int32) (v4 : Int32) (v5 : Int32) (σ : sM) : Option ((String ⊕ Int32) × sM) :=
    thn (f_X4_viewAt v1 σ) (fun tr1 σ1 => chk (isVb tr1) (thn (f_X4_viewAt v2 σ1) (fun tr3 σ3 => chk (isVb tr3) (thn (f_X4_refuseClosed tr3 σ3) (fun _ σ5 => rthn (f_X3_covers tr3 v4 σ5) (fun vr6 => if vr6 = 0 then
    (some (.inl "java/lang/IllegalArgumentException", σ5))
  else
    (if (σ5 tr3 1) < (12 : Int32) then
      (wthn (f_X3_becomeCut tr1 tr3 v3 v4 v5 σ5) (fun _ σ9 => rthn (f_X3_countEntries tr1 σ9) (fun vr10 => some (.inr vr10, σ9))))
    else
      (some (.inl "java/lang/IllegalStateException", σ5)))))))))
def f_X4_pollAt (t1 : Nat) (v2 : Int32) (σ : sM) : Option (Int32 × sM) :=
    chk (inb v2 120) (chk (inb v2 120) (stl (va_up σ 0 (upd (σ 0) 7 (σ (t1 + 2) (v2).toNatClampNeg))) (fun σ3 => stl (va_up σ3 0 (upd (σ3 0) 6 (1 : Int32))) (fun σ4 => wthn (f_X2_dropPlaces t1 v2 (v2 + (1 : Int32)) σ4) (fun _ σ5 => some ((σ (t1 + 1) (v2).toNatClampNeg), σ5))))))
def b_X4_drain_9 : Nat → Int32 → Nat → Int32 → sM → Option ((String ⊕ Int32) × sM)
  | 0, _, _, _, _ => none
  | n + 1, v2, t3, v4, σ =>
    if (60 : Int32) ≤ v4 then
    (stl (va_up σ 0 (upd (σ 0) 5 v4)) (fun σ4 => some (.inr v4, σ4)))
  else
    (if (σ t3 2) ≤ 0 then
      (stl (va_up σ 0 (upd (σ 0) 5 v4)) (fun σ6 => some (.inr v4, σ6)))
    else
      (if v2 = 0 then
        (wthn (f_X4_pollAt t3 (0 : Int32) σ) (fun vr8 σ8 => chk (inb v4 60) (stl (va_up σ8 5 (upd (σ8 5) (v4).toNatClampNeg vr8)) (fun σ10 => b_X4_drain_9 n v2 t3 (v4 + 1) σ10))))
      else
        (wthn (f_X4_pollAt t3 ((σ t3 2) - (1 : Int32)) σ) (fun vr11 σ11 => chk (inb v4 60) (stl (va_up σ11 5 (upd (σ11 5) (v4).toNatClampNeg vr11)) (fun σ13 => b_X4_drain_9 n v2 t3 (v4 + 1) σ13))))))
def f_X4_drain (v1 : Int32) (v2 : Int32) (σ : sM) : Option ((String ⊕ Int32) × sM) :=
    thn (f_X4_mapAt v1 σ) (fun tr1 σ1 => chk (isTb tr1) (b_X4_drain_9 FU v2 tr1 (0 : Int32) σ1))
def f_X4_drained (v1 : Int32) (σ : sM) : Option ((String ⊕ Int32) × sM) :=
    if v1 < 0 then
    (some (.inl "java/lang/IndexOutOfBoundsException", σ))
  else
    (if v1 < (σ 0 5) then
      (chk (inb v1 60) (some (.inr (σ 5 (v1).toNatClampNeg), σ)))
    else
      (some (.inl "java/lang/IndexOutOfBoundsException", σ)))
def f_X4_endPlace (v0 : Int32) (v1 : Int32) (v2 : Int32) (σ : sM) : Option ((String ⊕ Int32) × sM) :=
    if v0 < v1 then
    (if v2 = 0 then
      (some (.inr v0, σ))
    else
      (some (.inr (v1 - (1 : Int32)), σ)))
  else
    (some (.inl "java/util/NoSuchElementException", σ))
def f_X4_end (v1 : Int32) (v2 : Int32) (σ : sM) : Option ((String ⊕ Int32) × sM) :=
    thn (f_X4_mapAt v1 σ) (fun tr1 σ1 => chk (isTb tr1) (thn (f_X4_endPlace (0 : Int32) (σ1 tr1 2) v2 σ1) (fun vr3 σ3 => chk (inb vr3 120) (some (.inr (σ3 (tr1 + 1) (vr3).toNatClampNeg), σ3)))))
def f_X4_historyAt (v1 : Int32) (σ : sM) : Option ((String ⊕ Nat) × sM) :=
    if v1 < 0 then
    (some (.inl "java/lang/IndexOutOfBoundsException", σ))
  else
    (if v1 < (3 : Int32) then
      (chk (inb v1 3) (some (.inr (28 + 4 * v1.toNatClampNeg), σ)))
    else
      (some (.inl "java/lang/IndexOutOfBoundsException", σ)))
def f_X4_forget (v1 : Int32) (σ : sM) : Option ((String ⊕ Int32) × sM) :=
    thn (f_X4_historyAt v1 σ) (fun tr1 σ1 => chk (isHb tr1) (stl (va_up σ1 tr1 (upd (σ1 tr1) 0 (0 : Int32))) (fun σ3 => some (.inr (σ1 tr1 0), σ3))))
def f_X4_fullShare (v1 : Int32) (σ : sM) : Option ((String ⊕ UInt32) × sM) :=
    thn (f_X4_mapAt v1 σ) (fun tr1 σ1 => chk (isTb tr1) (chk (nn32 (FP.fdiv (FP.i2f (σ1 tr1 2)) (1114636288 : UInt32))) (some (.inr (FP.fdiv (FP.i2f (σ1 tr1 2)) (1114636288 : UInt32)), σ1))))
def f_X4_isLike (v1 : Int32) (v2 : Int32) (σ : sM) : Option ((String ⊕ Int32) × sM) :=
    thn (f_X4_mapAt v1 σ) (fun tr1 σ1 => chk (isTb tr1) (thn (f_X4_mapAt v2 σ1) (fun tr3 σ3 => chk (isTb tr3) (rthn (f_X2_isSame tr1 tr3 σ3) (fun vr5 => chk (isb vr5) (some (.inr vr5, σ3)))))))
def f_X4_isNearWay (v0 : Int32) (σ : sM) : Option Int32 :=
    if v0 = (102 : Int32) then
    (some (1 : Int32))
  else
    (if v0 = (99 : Int32) then
      (some (1 : Int32))
    else
      (if v0 = (104 : Int32) then
        (some (1 : Int32))
      else
        (if v0 = (108 : Int32) then
          (some (1 : Int32))
        else
          (some (0 : Int32)))))
def f_X4_isSound (σ : sM) : Option (Int32 × sM) :=
    wthn (f_X4_areMapsSound σ) (fun vr1 σ1 => if vr1 = 0 then
    (some ((0 : Int32), σ1))
  else
    (rthn (f_X4_areViewsSound σ1) (fun vr3 => if vr3 = 0 then
      (some ((0 : Int32), σ1))
    else
      (wthn (f_X4_areOrdersFree σ1) (fun vr5 σ5 => if vr5 = 0 then
        (some ((0 : Int32), σ5))
      else
        (wthn (f_X4_areOppositesSound σ5) (fun vr7 σ7 => if vr7 = 0 then
          (some ((0 : Int32), σ7))
        else
          (wthn (f_X4_areMixesSound σ7) (fun vr9 σ9 => if vr9 = 0 then
            (some ((0 : Int32), σ9))
          else
            (some ((1 : Int32), σ9)))))))))))
def f_X4_isStepKind (v0 : Int32) (σ : sM) : Option Int32 :=
    if v0 = (112 : Int32) then
    (some (1 : Int32))
  else
    (if v0 = (114 : Int32) then
      (some (1 : Int32))
    else
      (if v0 = (115 : Int32) then
        (some (1 : Int32))
      else
        (if v0 = (97 : Int32) then
          (some (1 : Int32))
        else
          (if v0 = (120 : Int32) then
            (some (1 : Int32))
          else
            (some (0 : Int32))))))
def f_X4_keyAt (v1 : Int32) (v2 : Int32) (v3 : Int32) (σ : sM) : Option ((String ⊕ Int32) × sM) :=
    thn (f_X4_mapAt v1 σ) (fun tr1 σ1 => chk (isTb tr1) (if v2 < 0 then
    (some (.inl "java/lang/IndexOutOfBoundsException", σ1))
  else
    (if v2 < (σ1 tr1 2) then
      (if v3 = 0 then
        (chk (inb v2 120) (some (.inr (σ1 (tr1 + 1) (v2).toNatClampNeg), σ1)))
      else
        (chk (inb (((σ1 tr1 2) - (1 : Int32)) - v2) 120) (some (.inr (σ1 (tr1 + 1) ((((σ1 tr1 2) - (1 : Int32)) - v2)).toNatClampNeg), σ1))))
    else
      (some (.inl "java/lang/IndexOutOfBoundsException", σ1)))))
def f_X4_lies (v1 : Int32) (v2 : Int32) (σ : sM) : Option ((String ⊕ Int32) × sM) :=
    thn (f_X4_viewAt v1 σ) (fun tr1 σ1 => chk (isVb tr1) (thn (f_X4_refuseClosed tr1 σ1) (fun _ σ3 => rthn (f_X3_covers tr1 v2 σ3) (fun vr4 => chk (isb vr4) (some (.inr vr4, σ3))))))
def b_X4_mark_11 : Nat → Nat → Int32 → Int32 → sM → Option ((String ⊕ Int32) × sM)
  | 0, _, _, _, _ => none
  | n + 1, t2, v3, v4, σ =>
    if (σ t2 2) ≤ v4 then
    (some (.inr v3, σ))
  else
    (chk (inb v4 120) (chk (inb v4 120) (b_X4_mark_11 n t2 (v3 + ((σ (t2 + 1) (v4).toNatClampNeg) ^^^ (σ (t2 + 2) (v4).toNatClampNeg))) (v4 + 1) σ)))
def f_X4_mark (v1 : Int32) (σ : sM) : Option ((String ⊕ Int32) × sM) :=
    thn (f_X4_mapAt v1 σ) (fun tr1 σ1 => chk (isTb tr1) (b_X4_mark_11 FU tr1 (0 : Int32) (0 : Int32) σ1))
def b_X4_meanKey_28 : Nat → Nat → Int64 → Int32 → sM → Option ((String ⊕ UInt64) × sM)
  | 0, _, _, _, _ => none
  | n + 1, t2, v3, v5, σ =>
    if (σ t2 2) ≤ v5 then
    (chk (nn64 (FP.ddiv (FP.l2d v3) (FP.i2d (σ t2 2)))) (some (.inr (FP.ddiv (FP.l2d v3) (FP.i2d (σ t2 2))), σ)))
  else
    (chk (inb v5 120) (b_X4_meanKey_28 n t2 (v3 + ((σ (t2 + 1) (v5).toNatClampNeg).toInt64)) (v5 + 1) σ))
def f_X4_meanKey (v1 : Int32) (σ : sM) : Option ((String ⊕ UInt64) × sM) :=
    thn (f_X4_mapAt v1 σ) (fun tr1 σ1 => chk (isTb tr1) (if (σ1 tr1 2) = 0 then
    (some (.inl "java/lang/ArithmeticException", σ1))
  else
    (b_X4_meanKey_28 FU tr1 (0 : Int64) (0 : Int32) σ1)))
def f_X4_meet (v1 : Int32) (v2 : Int32) (σ : sM) : Option ((String ⊕ Int32) × sM) :=
    thn (f_X4_historyAt v1 σ) (fun tr1 σ1 => chk (isHb tr1) (thn (f_X4_historyAt v2 σ1) (fun tr3 σ3 => chk (isHb tr3) (wthn (f_X0_countCommonKeys tr1 tr3 σ3) (fun vr5 σ5 => some (.inr vr5, σ5))))))
def f_X4_near (v1 : Int32) (v2 : Int32) (v3 : Int32) (σ : sM) : Option ((String ⊕ Int32) × sM) :=
    thn (f_X4_mapAt v1 σ) (fun tr1 σ1 => chk (isTb tr1) (rthn (f_X4_isNearWay v3 σ1) (fun vr3 => if vr3 = 0 then
    (some (.inl "java/lang/IllegalArgumentException", σ1))
  else
    (rthn (f_X2_placeNear tr1 v2 v3 (0 : Int32) (σ1 tr1 2) σ1) (fun vr5 => if 0 ≤ vr5 then
      (chk (inb vr5 120) (some (.inr (σ1 (tr1 + 1) (vr5).toNatClampNeg), σ1)))
    else
      (some (.inl "java/util/NoSuchElementException", σ1)))))))
def f_X4_open (v1 : Int32) (v2 : Int32) (v3 : Int32) (v4 : Int32) (v5 : Int32) (v6 : Int32) (σ : sM) : Option ((String ⊕ Int32) × sM) :=
    thn (f_X4_viewAt v1 σ) (fun tr1 σ1 => chk (isVb tr1) (thn (f_X4_mapAt v2 σ1) (fun tr3 σ3 => chk (isTb tr3) (if v3 ≤ v5 then
    (wthn (f_X3_becomeSpan tr1 tr3 v3 v4 v5 v6 σ3) (fun _ σ6 => rthn (f_X3_countEntries tr1 σ6) (fun vr7 => some (.inr vr7, σ6))))
  else
    (some (.inl "java/lang/IllegalArgumentException", σ3))))))
def f_X4_opposite (v1 : Int32) (v2 : Int32) (v3 : Int32) (σ : sM) : Option ((String ⊕ Int32) × sM) :=
    thn (f_X4_historyAt v1 σ) (fun tr1 σ1 => chk (isHb tr1) (thn (f_X4_mapAt v2 σ1) (fun tr3 σ3 => chk (isTb tr3) (thn (f_X4_historyAt v3 σ3) (fun tr5 σ5 => chk (isHb tr5) (wthn (f_X0_turnRound tr1 tr3 tr5 σ5) (fun _ σ7 => some (.inr (σ7 tr5 0), σ7))))))))
def f_X4_play (v1 : Int32) (v2 : Int32) (σ : sM) : Option ((String ⊕ Int32) × sM) :=
    thn (f_X4_historyAt v1 σ) (fun tr1 σ1 => chk (isHb tr1) (thn (f_X4_mapAt v2 σ1) (fun tr3 σ3 => chk (isTb tr3) (wthn (f_X0_hasRoom tr3 tr1 tr1 σ3) (fun vr5 σ5 => if vr5 = 0 then
    (some (.inl "java/lang/IllegalStateException", σ5))
  else
    (wthn (f_X1_playOn tr1 tr3 σ5) (fun vr7 σ7 => some (.inr vr7, σ7))))))))
def b_X4_playByTurns_83 (K20 : Nat → Nat → Int32 → Nat → Int32 → Int32 → Int32 → Int32 → sM → Option (Unit × sM)) (t0 : Nat) (t1 : Nat) (v2 : Int32) (t3 : Nat) (v4 : Int32) (v5 : Int32) (v6 : Int32) (v7 : Int32) (σ : sM) : Option (Unit × sM) :=
    if (σ t0 0) ≤ v4 then
    (K20 t0 t1 v2 t3 v4 v5 v6 (v7 + 1) σ)
  else
    (wthn (f_X1_doStep t0 v4 t3 σ) (fun _ σ9 => K20 t0 t1 v2 t3 (v4 + 1) v5 v6 (v7 + 1) σ9))
def b_X4_playByTurns_45 (K20 : Nat → Nat → Int32 → Nat → Int32 → Int32 → Int32 → Int32 → sM → Option (Unit × sM)) (t0 : Nat) (t1 : Nat) (v2 : Int32) (t3 : Nat) (v4 : Int32) (v5 : Int32) (v6 : Int32) (v7 : Int32) (vs0 : Int32) (σ : sM) : Option (Unit × sM) :=
    if (σ t1 0) ≤ v5 then
    (b_X4_playByTurns_83 K20 t0 t1 v2 t3 v4 v5 v6 v7 σ)
  else
    (if vs0 = 0 then
      (if v4 < (σ t0 0) then
        (b_X4_playByTurns_83 K20 t0 t1 v2 t3 v4 v5 v6 v7 σ)
      else
        (wthn (f_X1_doStep t1 v5 t3 σ) (fun _ σ7 => K20 t0 t1 v2 t3 v4 (v5 + 1) v6 (v7 + 1) σ7)))
    else
      (wthn (f_X1_doStep t1 v5 t3 σ) (fun _ σ5 => K20 t0 t1 v2 t3 v4 (v5 + 1) v6 (v7 + 1) σ5)))
def b_X4_playByTurns_20 : Nat → Nat → Nat → Int32 → Nat → Int32 → Int32 → Int32 → Int32 → sM → Option (Unit × sM)
  | 0, _, _, _, _, _, _, _, _, _ => none
  | n + 1, t0, t1, v2, t3, v4, v5, v6, v7, σ =>
    if v6 ≤ v7 then
    (some ((), σ))
  else
    (if (((v2.toUInt32 >>> ((v7 &&& (31 : Int32)).toUInt32 &&& Int32.toUInt32 31)).toInt32) &&& (1 : Int32)) = (1 : Int32) then
      (b_X4_playByTurns_45 (b_X4_playByTurns_20 n) t0 t1 v2 t3 v4 v5 v6 v7 (1 : Int32) σ)
    else
      (b_X4_playByTurns_45 (b_X4_playByTurns_20 n) t0 t1 v2 t3 v4 v5 v6 v7 (0 : Int32) σ))
def f_X4_playByTurns (t0 : Nat) (t1 : Nat) (v2 : Int32) (t3 : Nat) (σ : sM) : Option (Unit × sM) :=
    b_X4_playByTurns_20 FU t0 t1 v2 t3 (0 : Int32) (0 : Int32) ((σ t0 0) + (σ t1 0)) (0 : Int32) σ
def f_X4_playBoth (v1 : Int32) (v2 : Int32) (v3 : Int32) (v4 : Int32) (σ : sM) : Option ((String ⊕ Int32) × sM) :=
    thn (f_X4_historyAt v1 σ) (fun tr1 σ1 => chk (isHb tr1) (thn (f_X4_historyAt v2 σ1) (fun tr3 σ3 => chk (isHb tr3) (thn (f_X4_mapAt v4 σ3) (fun tr5 σ5 => chk (isTb tr5) (wthn (f_X0_hasRoom tr5 tr1 tr3 σ5) (fun vr7 σ7 => if vr7 = 0 then
    (some (.inl "java/lang/IllegalStateException", σ7))
  else
    (wthn (f_X4_playByTurns tr1 tr3 v3 tr5 σ7) (fun _ σ9 => some (.inr (σ9 tr5 2), σ9))))))))))
def f_X4_poll (v1 : Int32) (v2 : Int32) (σ : sM) : Option ((String ⊕ Int32) × sM) :=
    thn (f_X4_mapAt v1 σ) (fun tr1 σ1 => chk (isTb tr1) (thn (f_X4_endPlace (0 : Int32) (σ1 tr1 2) v2 σ1) (fun vr3 σ3 => wthn (f_X4_pollAt tr1 vr3 σ3) (fun vr4 σ4 => some (.inr vr4, σ4)))))
def f_X4_polled (σ : sM) : Option ((String ⊕ Int32) × sM) :=
    if (σ 0 6) = 0 then
    (some (.inl "java/util/NoSuchElementException", σ))
  else
    (some (.inr (σ 0 7), σ))
def f_X4_putWithin (t0 : Nat) (v1 : Int32) (v2 : Int32) (σ : sM) : Option ((String ⊕ Unit) × sM) :=
    if (σ t0 2) < (60 : Int32) then
    (wthn (f_X2_set t0 v1 v2 σ) (fun vr2 σ2 => some (.inr (), σ2)))
  else
    (rthn (f_X2_placeOf t0 v1 σ) (fun vr3 => if 0 ≤ vr3 then
      (wthn (f_X2_set t0 v1 v2 σ) (fun vr5 σ5 => some (.inr (), σ5)))
    else
      (some (.inl "java/lang/IllegalStateException", σ))))
def f_X4_put (v1 : Int32) (v2 : Int32) (v3 : Int32) (σ : sM) : Option ((String ⊕ Int32) × sM) :=
    thn (f_X4_mapAt v1 σ) (fun tr1 σ1 => chk (isTb tr1) (thn (f_X4_putWithin tr1 v2 v3 σ1) (fun _ σ3 => some (.inr (σ3 tr1 2), σ3))))
def f_X4_remove (v1 : Int32) (v2 : Int32) (σ : sM) : Option ((String ⊕ Int32) × sM) :=
    thn (f_X4_mapAt v1 σ) (fun tr1 σ1 => chk (isTb tr1) (wthn (f_X2_drop tr1 v2 σ1) (fun vr3 σ3 => some (.inr (σ3 tr1 2), σ3))))
def f_X4_size (v1 : Int32) (σ : sM) : Option ((String ⊕ Int32) × sM) :=
    thn (f_X4_mapAt v1 σ) (fun tr1 σ1 => chk (isTb tr1) (some (.inr (σ1 tr1 2), σ1)))
def f_X4_sourceOf (t0 : Nat) (σ : sM) : Option ((String ⊕ Nat) × sM) :=
    thn (f_X4_refuseClosed t0 σ) (fun _ σ1 => srcm (sSrc (σ1 t0 0))
    (none)
    (fun ts2 => some (.inr ts2, σ1)))
def f_X4_step (v1 : Int32) (v2 : Int32) (v3 : Int32) (v4 : Int32) (σ : sM) : Option ((String ⊕ Int32) × sM) :=
    thn (f_X4_historyAt v1 σ) (fun tr1 σ1 => chk (isHb tr1) (rthn (f_X4_isStepKind v2 σ1) (fun vr3 => if vr3 = 0 then
    (some (.inl "java/lang/IllegalArgumentException", σ1))
  else
    (if (σ1 tr1 0) < (30 : Int32) then
      (wthn (f_X1_add tr1 v2 v3 v4 σ1) (fun _ σ6 => some (.inr (σ6 tr1 0), σ6)))
    else
      (some (.inl "java/lang/IllegalStateException", σ1))))))
def f_X4_value (v1 : Int32) (v2 : Int32) (σ : sM) : Option ((String ⊕ Int32) × sM) :=
    thn (f_X4_mapAt v1 σ) (fun tr1 σ1 => chk (isTb tr1) (rthn (f_X2_placeOf tr1 v2 σ1) (fun vr3 => if 0 ≤ vr3 then
    (chk (inb vr3 120) (some (.inr (σ1 (tr1 + 2) (vr3).toNatClampNeg), σ1)))
  else
    (some (.inl "java/util/NoSuchElementException", σ1)))))
def f_X4_viewClear (v1 : Int32) (σ : sM) : Option ((String ⊕ Int32) × sM) :=
    thn (f_X4_viewAt v1 σ) (fun tr1 σ1 => chk (isVb tr1) (thn (f_X4_sourceOf tr1 σ1) (fun tr3 σ3 => chk (isTb tr3) (rthn (f_X3_beginIn tr1 tr3 σ3) (fun vr5 => rthn (f_X3_stopIn tr1 tr3 σ3) (fun vr6 => wthn (f_X2_dropPlaces tr3 vr5 vr6 σ3) (fun _ σ7 => some (.inr ((σ3 tr3 2) - (σ7 tr3 2)), σ7))))))))
def f_X4_viewEnd (v1 : Int32) (v2 : Int32) (σ : sM) : Option ((String ⊕ Int32) × sM) :=
    thn (f_X4_viewAt v1 σ) (fun tr1 σ1 => chk (isVb tr1) (thn (f_X4_sourceOf tr1 σ1) (fun tr3 σ3 => chk (isTb tr3) (rthn (f_X3_beginIn tr1 tr3 σ3) (fun vr5 => rthn (f_X3_stopIn tr1 tr3 σ3) (fun vr6 => thn (f_X4_endPlace vr5 vr6 v2 σ3) (fun vr7 σ7 => chk (inb vr7 120) (some (.inr (σ7 (tr3 + 1) (vr7).toNatClampNeg), σ7)))))))))
def f_X4_viewNear (v1 : Int32) (v2 : Int32) (v3 : Int32) (σ : sM) : Option ((String ⊕ Int32) × sM) :=
    thn (f_X4_viewAt v1 σ) (fun tr1 σ1 => chk (isVb tr1) (rthn (f_X4_isNearWay v3 σ1) (fun vr3 => if vr3 = 0 then
    (some (.inl "java/lang/IllegalArgumentException", σ1))
  else
    (thn (f_X4_sourceOf tr1 σ1) (fun tr5 σ5 => chk (isTb tr5) (rthn (f_X3_beginIn tr1 tr5 σ5) (fun vr7 => rthn (f_X3_stopIn tr1 tr5 σ5) (fun vr8 => rthn (f_X2_placeNear tr5 v2 v3 vr7 vr8 σ5) (fun vr9 => if 0 ≤ vr9 then
      (chk (inb vr9 120) (some (.inr (σ5 (tr5 + 1) (vr9).toNatClampNeg), σ5)))
    else
      (some (.inl "java/util/NoSuchElementException", σ5)))))))))))
def f_X4_viewPoll (v1 : Int32) (v2 : Int32) (σ : sM) : Option ((String ⊕ Int32) × sM) :=
    thn (f_X4_viewAt v1 σ) (fun tr1 σ1 => chk (isVb tr1) (thn (f_X4_sourceOf tr1 σ1) (fun tr3 σ3 => chk (isTb tr3) (rthn (f_X3_beginIn tr1 tr3 σ3) (fun vr5 => rthn (f_X3_stopIn tr1 tr3 σ3) (fun vr6 => thn (f_X4_endPlace vr5 vr6 v2 σ3) (fun vr7 σ7 => wthn (f_X4_pollAt tr3 vr7 σ7) (fun vr8 σ8 => some (.inr vr8, σ8)))))))))
def f_X4_viewPut (v1 : Int32) (v2 : Int32) (v3 : Int32) (σ : sM) : Option ((String ⊕ Int32) × sM) :=
    thn (f_X4_viewAt v1 σ) (fun tr1 σ1 => chk (isVb tr1) (thn (f_X4_sourceOf tr1 σ1) (fun tr3 σ3 => chk (isTb tr3) (rthn (f_X3_covers tr1 v2 σ3) (fun vr5 => if vr5 = 0 then
    (some (.inl "java/lang/IllegalArgumentException", σ3))
  else
    (thn (f_X4_putWithin tr3 v2 v3 σ3) (fun _ σ7 => rthn (f_X3_countEntries tr1 σ7) (fun vr8 => some (.inr vr8, σ7)))))))))
def f_X4_viewRemove (v1 : Int32) (v2 : Int32) (σ : sM) : Option ((String ⊕ Int32) × sM) :=
    thn (f_X4_viewAt v1 σ) (fun tr1 σ1 => chk (isVb tr1) (thn (f_X4_sourceOf tr1 σ1) (fun tr3 σ3 => chk (isTb tr3) (rthn (f_X3_covers tr1 v2 σ3) (fun vr5 => if vr5 = 0 then
    (some (.inr (0 : Int32), σ3))
  else
    (wthn (f_X2_drop tr3 v2 σ3) (fun vr7 σ7 => if vr7 = 0 then
      (some (.inr (0 : Int32), σ7))
    else
      (some (.inr (1 : Int32), σ7)))))))))
def f_X4_viewSize (v1 : Int32) (σ : sM) : Option ((String ⊕ Int32) × sM) :=
    thn (f_X4_viewAt v1 σ) (fun tr1 σ1 => chk (isVb tr1) (rthn (f_X3_countEntries tr1 σ1) (fun vr3 => some (.inr vr3, σ1))))
def f_X5_adds (v1 : Int32) (v2 : Int32) (v3 : Int32) (v4 : Int32) (σ : sM) : Option (Unit × sM) :=
    chk (inb v1 3) (chk (inb (((30 : Int32) * v1) + (σ 58 (v1).toNatClampNeg)) 90) (stl (va_up σ 55 (upd (σ 55) ((((30 : Int32) * v1) + (σ 58 (v1).toNatClampNeg))).toNatClampNeg (vp_nar .char v2))) (fun σ3 => chk (inb (((30 : Int32) * v1) + (σ 58 (v1).toNatClampNeg)) 90) (stl (va_up σ3 56 (upd (σ3 56) ((((30 : Int32) * v1) + (σ 58 (v1).toNatClampNeg))).toNatClampNeg v3)) (fun σ5 => chk (inb (((30 : Int32) * v1) + (σ 58 (v1).toNatClampNeg)) 90) (stl (va_up σ5 57 (upd (σ5 57) ((((30 : Int32) * v1) + (σ 58 (v1).toNatClampNeg))).toNatClampNeg v4)) (fun σ7 => chk (inb v1 3) (chk (inb v1 3) (stl (va_up σ7 58 (upd (σ7 58) (v1).toNatClampNeg ((σ7 58 (v1).toNatClampNeg) + (1 : Int32)))) (fun σ10 => some ((), σ10)))))))))))
def b_X5_firstOf_9 : Nat → Int32 → Int32 → Int32 → sM → Option Int32
  | 0, _, _, _, _ => none
  | n + 1, v1, v2, v3, σ =>
    chk (inb v2 3) (if (σ 47 (v2).toNatClampNeg) ≤ v3 then
    (some v3)
  else
    (chk (inb (((60 : Int32) * v2) + v3) 180) (chk (inb v1 4) (if (σ 45 ((((60 : Int32) * v2) + v3)).toNatClampNeg) < (σ 50 (v1).toNatClampNeg) then
      (b_X5_firstOf_9 n v1 v2 (v3 + 1) σ)
    else
      (chk (inb (((60 : Int32) * v2) + v3) 180) (chk (inb v1 4) (if (σ 45 ((((60 : Int32) * v2) + v3)).toNatClampNeg) = (σ 50 (v1).toNatClampNeg) then
        (chk (inb v1 4) (if (σ 52 (v1).toNatClampNeg) = 0 then
          (b_X5_firstOf_9 n v1 v2 (v3 + 1) σ)
        else
          (some v3)))
      else
        (some v3))))))))
def f_X5_firstOf (v1 : Int32) (σ : sM) : Option Int32 :=
    chk (inb v1 4) (b_X5_firstOf_9 FU v1 (σ 49 (v1).toNatClampNeg) (0 : Int32) σ)
def b_X5_isIn_42 (v1 : Int32) (v2 : Int32) (vs0 : Int32) (σ : sM) : Option Int32 :=
    chk (inb v1 4) (if (σ 53 (v1).toNatClampNeg) = 0 then
    (chk (inb v1 4) (if (σ 51 (v1).toNatClampNeg) ≤ v2 then
      (if vs0 = 0 then
        (some (0 : Int32))
      else
        (some (0 : Int32)))
    else
      (if vs0 = 0 then
        (some (0 : Int32))
      else
        (some (1 : Int32)))))
  else
    (chk (inb v1 4) (if (σ 51 (v1).toNatClampNeg) < v2 then
      (if vs0 = 0 then
        (some (0 : Int32))
      else
        (some (0 : Int32)))
    else
      (if vs0 = 0 then
        (some (0 : Int32))
      else
        (some (1 : Int32))))))
def f_X5_isIn (v1 : Int32) (v2 : Int32) (σ : sM) : Option Int32 :=
    chk (inb v1 4) (if (σ 52 (v1).toNatClampNeg) = 0 then
    (chk (inb v1 4) (if v2 ≤ (σ 50 (v1).toNatClampNeg) then
      (b_X5_isIn_42 v1 v2 (0 : Int32) σ)
    else
      (b_X5_isIn_42 v1 v2 (1 : Int32) σ)))
  else
    (chk (inb v1 4) (if v2 < (σ 50 (v1).toNatClampNeg) then
      (b_X5_isIn_42 v1 v2 (0 : Int32) σ)
    else
      (b_X5_isIn_42 v1 v2 (1 : Int32) σ))))
def b_X5_behindOf_13 : Nat → Int32 → Int32 → Int32 → sM → Option Int32
  | 0, _, _, _, _ => none
  | n + 1, v1, v2, v3, σ =>
    chk (inb v2 3) (if (σ 47 (v2).toNatClampNeg) ≤ v3 then
    (some v3)
  else
    (chk (inb (((60 : Int32) * v2) + v3) 180) (rthn (f_X5_isIn v1 (σ 45 ((((60 : Int32) * v2) + v3)).toNatClampNeg) σ) (fun vr6 => if vr6 = 0 then
      (some v3)
    else
      (b_X5_behindOf_13 n v1 v2 (v3 + 1) σ)))))
def f_X5_behindOf (v1 : Int32) (σ : sM) : Option Int32 :=
    chk (inb v1 4) (rthn (f_X5_firstOf v1 σ) (fun vr2 => b_X5_behindOf_13 FU v1 (σ 49 (v1).toNatClampNeg) vr2 σ))
def f_X5_manyOf (v1 : Int32) (σ : sM) : Option Int32 :=
    rthn (f_X5_behindOf v1 σ) (fun vr1 => rthn (f_X5_firstOf v1 σ) (fun vr2 => some (vr1 - vr2)))
def b_X5_checksum_33 (K11 : Int64 → Int32 → sM → Option (Int64 × sM)) : Nat → Int64 → Int32 → Int32 → sM → Option (Int64 × sM)
  | 0, _, _, _, _ => none
  | n + 1, v1, v3, v4, σ =>
    chk (inb v3 3) (if (σ 47 (v3).toNatClampNeg) ≤ v4 then
    (K11 v1 (v3 + 1) σ)
  else
    (chk (inb (((60 : Int32) * v3) + v4) 180) (chk (inb (((60 : Int32) * v3) + v4) 180) (b_X5_checksum_33 K11 n (((31 : Int64) * (((31 : Int64) * v1) + ((σ 45 ((((60 : Int32) * v3) + v4)).toNatClampNeg).toInt64))) + ((σ 46 ((((60 : Int32) * v3) + v4)).toNatClampNeg).toInt64)) v3 (v4 + 1) σ))))
def b_X5_checksum_173 (K98 : Int64 → Int32 → sM → Option (Int64 × sM)) (K132 : Int64 → Int32 → Int32 → sM → Option (Int64 × sM)) (v1 : Int64) (v3 : Int32) (v4 : Int32) (vs0 : Int32) (σ : sM) : Option (Int64 × sM) :=
    if vs0 = 0 then
    (K132 v1 v3 (v4 + 1) σ)
  else
    (chk (inb v3 4) (chk (inb (((60 : Int32) * (σ 49 (v3).toNatClampNeg)) + v4) 180) (K132 (((31 : Int64) * v1) + ((σ 45 ((((60 : Int32) * (σ 49 (v3).toNatClampNeg)) + v4)).toNatClampNeg).toInt64)) v3 (v4 + 1) σ)))
def b_X5_checksum_132 (K98 : Int64 → Int32 → sM → Option (Int64 × sM)) : Nat → Int64 → Int32 → Int32 → sM → Option (Int64 × sM)
  | 0, _, _, _, _ => none
  | n + 1, v1, v3, v4, σ =>
    if (60 : Int32) ≤ v4 then
    (K98 v1 (v3 + 1) σ)
  else
    (chk (inb v3 4) (if (σ 48 (v3).toNatClampNeg) = 0 then
      (b_X5_checksum_173 K98 (b_X5_checksum_132 K98 n) v1 v3 v4 (0 : Int32) σ)
    else
      (rthn (f_X5_firstOf v3 σ) (fun vr17 => if v4 < vr17 then
        (b_X5_checksum_173 K98 (b_X5_checksum_132 K98 n) v1 v3 v4 (0 : Int32) σ)
      else
        (rthn (f_X5_behindOf v3 σ) (fun vr19 => if vr19 ≤ v4 then
          (b_X5_checksum_173 K98 (b_X5_checksum_132 K98 n) v1 v3 v4 (0 : Int32) σ)
        else
          (b_X5_checksum_173 K98 (b_X5_checksum_132 K98 n) v1 v3 v4 (1 : Int32) σ)))))))
def b_X5_checksum_245 (K223 : Int64 → Int32 → sM → Option (Int64 × sM)) : Nat → Int64 → Int32 → Int32 → sM → Option (Int64 × sM)
  | 0, _, _, _, _ => none
  | n + 1, v1, v3, v4, σ =>
    chk (inb v3 3) (if (σ 58 (v3).toNatClampNeg) ≤ v4 then
    (K223 v1 (v3 + 1) σ)
  else
    (chk (inb (((30 : Int32) * v3) + v4) 90) (chk (inb (((30 : Int32) * v3) + v4) 90) (chk (inb (((30 : Int32) * v3) + v4) 90) (b_X5_checksum_245 K223 n (((31 : Int64) * (((31 : Int64) * (((31 : Int64) * v1) + ((σ 55 ((((30 : Int32) * v3) + v4)).toNatClampNeg).toInt64))) + ((σ 56 ((((30 : Int32) * v3) + v4)).toNatClampNeg).toInt64))) + ((σ 57 ((((30 : Int32) * v3) + v4)).toNatClampNeg).toInt64)) v3 (v4 + 1) σ)))))
def b_X5_checksum_223 : Nat → Int64 → Int32 → sM → Option (Int64 × sM)
  | 0, _, _, _ => none
  | n + 1, v1, v3, σ =>
    if (3 : Int32) ≤ v3 then
    (some (v1, σ))
  else
    (chk (inb v3 3) (b_X5_checksum_245 (b_X5_checksum_223 n) FU (((31 : Int64) * v1) + ((σ 58 (v3).toNatClampNeg).toInt64)) v3 (0 : Int32) σ))
def b_X5_checksum_98 : Nat → Int64 → Int32 → sM → Option (Int64 × sM)
  | 0, _, _, _ => none
  | n + 1, v1, v3, σ =>
    if (4 : Int32) ≤ v3 then
    (b_X5_checksum_223 FU v1 (0 : Int32) σ)
  else
    (chk (inb v3 4) (if (σ 48 (v3).toNatClampNeg) = 0 then
      (b_X5_checksum_132 (b_X5_checksum_98 n) FU (((31 : Int64) * v1) + ((-1 : Int32).toInt64)) v3 (0 : Int32) σ)
    else
      (rthn (f_X5_manyOf v3 σ) (fun vr7 => b_X5_checksum_132 (b_X5_checksum_98 n) FU (((31 : Int64) * v1) + (vr7.toInt64)) v3 (0 : Int32) σ))))
def b_X5_checksum_11 : Nat → Int64 → Int32 → sM → Option (Int64 × sM)
  | 0, _, _, _ => none
  | n + 1, v1, v3, σ =>
    if (3 : Int32) ≤ v3 then
    (b_X5_checksum_98 FU v1 (0 : Int32) σ)
  else
    (chk (inb v3 3) (b_X5_checksum_33 (b_X5_checksum_11 n) FU (((31 : Int64) * v1) + ((σ 47 (v3).toNatClampNeg).toInt64)) v3 (0 : Int32) σ))
def f_X5_checksum (σ : sM) : Option (Int64 × sM) :=
    stl (va_up σ 44 (upd (σ 44) 20 (0 : Int32))) (fun σ1 => b_X5_checksum_11 FU (7 : Int64) (0 : Int32) σ1)
def f_X5_in (v0 : Int32) (v1 : Int32) (v2 : Int32) (σ : sM) : Option Int32 :=
    if v0 < v1 then
    (some (0 : Int32))
  else
    (if v2 < v0 then
      (some (0 : Int32))
    else
      (some (1 : Int32)))
def f_X5_isMap (v0 : Int32) (σ : sM) : Option Int32 :=
    rthn (f_X5_in v0 (0 : Int32) (2 : Int32) σ) (fun vr1 => chk (isb vr1) (some vr1))
def b_X5_placeOf_33 (v1 : Int32) (v2 : Int32) (v3 : Int32) (σ : sM) : Option Int32 :=
    chk (inb v1 3) (if (σ 47 (v1).toNatClampNeg) ≤ v3 then
    (some ((-1 : Int32) - v3))
  else
    (chk (inb (((60 : Int32) * v1) + v3) 180) (if (σ 45 ((((60 : Int32) * v1) + v3)).toNatClampNeg) = v2 then
      (some v3)
    else
      (some ((-1 : Int32) - v3)))))
def b_X5_placeOf_2 : Nat → Int32 → Int32 → Int32 → sM → Option Int32
  | 0, _, _, _, _ => none
  | n + 1, v1, v2, v3, σ =>
    chk (inb v1 3) (if (σ 47 (v1).toNatClampNeg) ≤ v3 then
    (b_X5_placeOf_33 v1 v2 v3 σ)
  else
    (chk (inb (((60 : Int32) * v1) + v3) 180) (if v2 ≤ (σ 45 ((((60 : Int32) * v1) + v3)).toNatClampNeg) then
      (b_X5_placeOf_33 v1 v2 v3 σ)
    else
      (b_X5_placeOf_2 n v1 v2 (v3 + 1) σ))))
def f_X5_placeOf (v1 : Int32) (v2 : Int32) (σ : sM) : Option Int32 :=
    b_X5_placeOf_2 FU v1 v2 (0 : Int32) σ
def f_X5_has (v1 : Int32) (v2 : Int32) (σ : sM) : Option Int32 :=
    rthn (f_X5_placeOf v1 v2 σ) (fun vr1 => if vr1 < 0 then
    (some (0 : Int32))
  else
    (some (1 : Int32)))
def b_X5_manyTogether_10 : Nat → Int32 → Int32 → Int32 → Int32 → sM → Option Int32
  | 0, _, _, _, _, _ => none
  | n + 1, v1, v2, v3, v4, σ =>
    chk (inb v1 3) (if (σ 47 (v1).toNatClampNeg) ≤ v4 then
    (some v3)
  else
    (chk (inb (((60 : Int32) * v1) + v4) 180) (rthn (f_X5_has v2 (σ 45 ((((60 : Int32) * v1) + v4)).toNatClampNeg) σ) (fun vr5 => if vr5 = 0 then
      (b_X5_manyTogether_10 n v1 v2 (v3 + (1 : Int32)) (v4 + 1) σ)
    else
      (b_X5_manyTogether_10 n v1 v2 (v3 + (0 : Int32)) (v4 + 1) σ)))))
def f_X5_manyTogether (v1 : Int32) (v2 : Int32) (σ : sM) : Option Int32 :=
    chk (inb v2 3) (b_X5_manyTogether_10 FU v1 v2 (σ 47 (v2).toNatClampNeg) (0 : Int32) σ)
def f_X5_refused (v1 : Int32) (σ : sM) : Option (Int32 × sM) :=
    stl (va_up σ 44 (upd (σ 44) 20 v1)) (fun σ1 => if v1 = 0 then
    (some ((0 : Int32), σ1))
  else
    (some ((1 : Int32), σ1)))
def b_X5_puts_27 : Nat → Int32 → Int32 → Int32 → Int32 → Int32 → sM → Option (Unit × sM)
  | 0, _, _, _, _, _, _ => none
  | n + 1, v1, v2, v3, v4, v5, σ =>
    if v5 ≤ v4 then
    (chk (inb v1 3) (chk (inb v1 3) (stl (va_up σ 47 (upd (σ 47) (v1).toNatClampNeg ((σ 47 (v1).toNatClampNeg) + (1 : Int32)))) (fun σ9 => chk (inb (((60 : Int32) * v1) + v4) 180) (stl (va_up σ9 45 (upd (σ9 45) ((((60 : Int32) * v1) + v4)).toNatClampNeg v2)) (fun σ11 => chk (inb (((60 : Int32) * v1) + v4) 180) (stl (va_up σ11 46 (upd (σ11 46) ((((60 : Int32) * v1) + v4)).toNatClampNeg v3)) (fun σ13 => some ((), σ13)))))))))
  else
    (chk (inb ((((60 : Int32) * v1) + v5) - (1 : Int32)) 180) (chk (inb (((60 : Int32) * v1) + v5) 180) (stl (va_up σ 45 (upd (σ 45) ((((60 : Int32) * v1) + v5)).toNatClampNeg (σ 45 (((((60 : Int32) * v1) + v5) - (1 : Int32))).toNatClampNeg))) (fun σ16 => chk (inb ((((60 : Int32) * v1) + v5) - (1 : Int32)) 180) (chk (inb (((60 : Int32) * v1) + v5) 180) (stl (va_up σ16 46 (upd (σ16 46) ((((60 : Int32) * v1) + v5)).toNatClampNeg (σ16 46 (((((60 : Int32) * v1) + v5) - (1 : Int32))).toNatClampNeg))) (fun σ19 => b_X5_puts_27 n v1 v2 v3 v4 (v5 + (-1)) σ19)))))))
def f_X5_puts (v1 : Int32) (v2 : Int32) (v3 : Int32) (σ : sM) : Option (Unit × sM) :=
    rthn (f_X5_placeOf v1 v2 σ) (fun vr1 => if 0 ≤ vr1 then
    (chk (inb (((60 : Int32) * v1) + vr1) 180) (stl (va_up σ 46 (upd (σ 46) ((((60 : Int32) * v1) + vr1)).toNatClampNeg v3)) (fun σ4 => some ((), σ4))))
  else
    (chk (inb v1 3) (b_X5_puts_27 FU v1 v2 v3 ((-1 : Int32) - vr1) (σ 47 (v1).toNatClampNeg) σ)))
def b_X5_combine_190 (K85 : Int32 → Int32 → Int32 → Int32 → sM → Option (Int32 × sM)) (v1 : Int32) (v2 : Int32) (v3 : Int32) (v5 : Int32) (v6 : Int32) (v7 : Int32) (v8 : Int32) (v9 : Int32) (vs0 : Int32) (σ : sM) : Option (Int32 × sM) :=
    if v8 < 0 then
    (if vs0 = 0 then
      (wthn (f_X5_puts v2 v6 v9 σ) (fun _ σ38 => K85 v1 v2 v3 (v5 + 1) σ38))
    else
      (wthn (f_X5_puts v2 v6 v7 σ) (fun _ σ39 => K85 v1 v2 v3 (v5 + 1) σ39)))
  else
    (if v3 = (115 : Int32) then
      (wthn (f_X5_puts v2 v6 (v7 + v9) σ) (fun _ σ44 => K85 v1 v2 v3 (v5 + 1) σ44))
    else
      (if vs0 = 0 then
        (wthn (f_X5_puts v2 v6 v9 σ) (fun _ σ42 => K85 v1 v2 v3 (v5 + 1) σ42))
      else
        (wthn (f_X5_puts v2 v6 v7 σ) (fun _ σ43 => K85 v1 v2 v3 (v5 + 1) σ43))))
def b_X5_combine_155 (K85 : Int32 → Int32 → Int32 → Int32 → sM → Option (Int32 × sM)) (v1 : Int32) (v2 : Int32) (v3 : Int32) (v5 : Int32) (v6 : Int32) (v7 : Int32) (v8 : Int32) (vs0 : Int32) (σ : sM) : Option (Int32 × sM) :=
    if v8 < 0 then
    (b_X5_combine_190 K85 v1 v2 v3 v5 v6 v7 v8 vs0 (1 : Int32) σ)
  else
    (if v3 = (103 : Int32) then
      (if v7 ≤ vs0 then
        (b_X5_combine_190 K85 v1 v2 v3 v5 v6 v7 v8 vs0 (0 : Int32) σ)
      else
        (b_X5_combine_190 K85 v1 v2 v3 v5 v6 v7 v8 vs0 (1 : Int32) σ))
    else
      (if vs0 ≤ v7 then
        (b_X5_combine_190 K85 v1 v2 v3 v5 v6 v7 v8 vs0 (0 : Int32) σ)
      else
        (b_X5_combine_190 K85 v1 v2 v3 v5 v6 v7 v8 vs0 (1 : Int32) σ)))
def b_X5_combine_85 : Nat → Int32 → Int32 → Int32 → Int32 → sM → Option (Int32 × sM)
  | 0, _, _, _, _, _ => none
  | n + 1, v1, v2, v3, v5, σ =>
    chk (inb v1 3) (if (σ 47 (v1).toNatClampNeg) ≤ v5 then
    (chk (inb v2 3) (some ((σ 47 (v2).toNatClampNeg), σ)))
  else
    (chk (inb (((60 : Int32) * v1) + v5) 180) (chk (inb (((60 : Int32) * v1) + v5) 180) (rthn (f_X5_placeOf v2 (σ 45 ((((60 : Int32) * v1) + v5)).toNatClampNeg) σ) (fun vr29 => if 0 ≤ vr29 then
      (chk (inb (((60 : Int32) * v2) + vr29) 180) (b_X5_combine_155 (b_X5_combine_85 n) v1 v2 v3 v5 (σ 45 ((((60 : Int32) * v1) + v5)).toNatClampNeg) (σ 46 ((((60 : Int32) * v1) + v5)).toNatClampNeg) vr29 (σ 46 ((((60 : Int32) * v2) + vr29)).toNatClampNeg) σ))
    else
      (b_X5_combine_155 (b_X5_combine_85 n) v1 v2 v3 v5 (σ 45 ((((60 : Int32) * v1) + v5)).toNatClampNeg) (σ 46 ((((60 : Int32) * v1) + v5)).toNatClampNeg) vr29 (σ 46 ((((60 : Int32) * v1) + v5)).toNatClampNeg) σ))))))
def b_X5_combine_23 (v1 : Int32) (v2 : Int32) (v3 : Int32) (vs0 : Int32) (σ : sM) : Option (Int32 × sM) :=
    rthn (f_X5_isMap v1 σ) (fun vr4 => if vr4 = 0 then
    (wthn (f_X5_refused (1 : Int32) σ) (fun vr6 σ6 => if vr6 = 0 then
      (b_X5_combine_85 FU v1 v2 v3 (0 : Int32) σ6)
    else
      (some ((0 : Int32), σ6))))
  else
    (rthn (f_X5_isMap v2 σ) (fun vr8 => if vr8 = 0 then
      (wthn (f_X5_refused (1 : Int32) σ) (fun vr22 σ22 => if vr22 = 0 then
        (b_X5_combine_85 FU v1 v2 v3 (0 : Int32) σ22)
      else
        (some ((0 : Int32), σ22))))
    else
      (if vs0 = 0 then
        (wthn (f_X5_refused (2 : Int32) σ) (fun vr11 σ11 => if vr11 = 0 then
          (b_X5_combine_85 FU v1 v2 v3 (0 : Int32) σ11)
        else
          (some ((0 : Int32), σ11))))
      else
        (if v1 = v2 then
          (wthn (f_X5_refused (2 : Int32) σ) (fun vr20 σ20 => if vr20 = 0 then
            (b_X5_combine_85 FU v1 v2 v3 (0 : Int32) σ20)
          else
            (some ((0 : Int32), σ20))))
        else
          (rthn (f_X5_manyTogether v1 v2 σ) (fun vr14 => if vr14 ≤ (60 : Int32) then
            (wthn (f_X5_refused (0 : Int32) σ) (fun vr16 σ16 => if vr16 = 0 then
              (b_X5_combine_85 FU v1 v2 v3 (0 : Int32) σ16)
            else
              (some ((0 : Int32), σ16))))
          else
            (wthn (f_X5_refused (3 : Int32) σ) (fun vr18 σ18 => if vr18 = 0 then
              (b_X5_combine_85 FU v1 v2 v3 (0 : Int32) σ18)
            else
              (some ((0 : Int32), σ18)))))))))))
def f_X5_combine (v1 : Int32) (v2 : Int32) (v3 : Int32) (σ : sM) : Option (Int32 × sM) :=
    if v3 = (115 : Int32) then
    (b_X5_combine_23 v1 v2 v3 (1 : Int32) σ)
  else
    (if v3 = (103 : Int32) then
      (b_X5_combine_23 v1 v2 v3 (1 : Int32) σ)
    else
      (if v3 = (108 : Int32) then
        (b_X5_combine_23 v1 v2 v3 (1 : Int32) σ)
      else
        (b_X5_combine_23 v1 v2 v3 (0 : Int32) σ)))
def f_X5_isView (v0 : Int32) (σ : sM) : Option Int32 :=
    rthn (f_X5_in v0 (0 : Int32) (3 : Int32) σ) (fun vr1 => chk (isb vr1) (some vr1))
def b_X5_cut_172 (v1 : Int32) (v2 : Int32) (vs1 : Int32) (vs2 : Int32) (σ : sM) : Option (Int32 × sM) :=
    chk (inb vs1 4) (stl (va_up σ 53 (upd (σ 53) (vs1).toNatClampNeg (vp_nar .boolean vs2))) (fun σ41 => chk (inb v2 4) (chk (inb v1 4) (stl (va_up σ41 54 (upd (σ41 54) (v1).toNatClampNeg ((σ41 54 (v2).toNatClampNeg) + (1 : Int32)))) (fun σ44 => rthn (f_X5_manyOf v1 σ44) (fun vr45 => some (vr45, σ44)))))))
def b_X5_cut_130 (v1 : Int32) (v2 : Int32) (v3 : Int32) (v4 : Int32) (v5 : Int32) (vs1 : Int32) (vs2 : Int32) (σ : sM) : Option (Int32 × sM) :=
    chk (inb vs1 4) (stl (va_up σ 52 (upd (σ 52) (vs1).toNatClampNeg (vp_nar .boolean vs2))) (fun σ29 => if v3 = 0 then
    (chk (inb v2 4) (chk (inb v1 4) (stl (va_up σ29 51 (upd (σ29 51) (v1).toNatClampNeg (σ29 51 (v2).toNatClampNeg))) (fun σ33 => if v3 = 0 then
      (chk (inb v2 4) (b_X5_cut_172 v1 v2 v1 (σ33 53 (v2).toNatClampNeg) σ33))
    else
      (b_X5_cut_172 v1 v2 v1 v5 σ33)))))
  else
    (chk (inb v1 4) (stl (va_up σ29 51 (upd (σ29 51) (v1).toNatClampNeg v4)) (fun σ37 => if v3 = 0 then
      (chk (inb v2 4) (b_X5_cut_172 v1 v2 v1 (σ37 53 (v2).toNatClampNeg) σ37))
    else
      (b_X5_cut_172 v1 v2 v1 v5 σ37))))))
def b_X5_cut_62 (v1 : Int32) (v2 : Int32) (v3 : Int32) (v4 : Int32) (v5 : Int32) (vs1 : Int32) (σ : sM) : Option (Int32 × sM) :=
    wthn (f_X5_refused vs1 σ) (fun vr11 σ11 => if vr11 = 0 then
    (chk (inb v1 4) (stl (va_up σ11 48 (upd (σ11 48) (v1).toNatClampNeg (vp_nar .boolean (1 : Int32)))) (fun σ14 => chk (inb v2 4) (chk (inb v1 4) (stl (va_up σ14 49 (upd (σ14 49) (v1).toNatClampNeg (σ14 49 (v2).toNatClampNeg))) (fun σ17 => if v3 = 0 then
      (chk (inb v1 4) (stl (va_up σ17 50 (upd (σ17 50) (v1).toNatClampNeg v4)) (fun σ20 => if v3 = 0 then
        (b_X5_cut_130 v1 v2 v3 v4 v5 v1 v5 σ20)
      else
        (chk (inb v2 4) (b_X5_cut_130 v1 v2 v3 v4 v5 v1 (σ20 52 (v2).toNatClampNeg) σ20)))))
    else
      (chk (inb v2 4) (chk (inb v1 4) (stl (va_up σ17 50 (upd (σ17 50) (v1).toNatClampNeg (σ17 50 (v2).toNatClampNeg))) (fun σ25 => if v3 = 0 then
        (b_X5_cut_130 v1 v2 v3 v4 v5 v1 v5 σ25)
      else
        (chk (inb v2 4) (b_X5_cut_130 v1 v2 v3 v4 v5 v1 (σ25 52 (v2).toNatClampNeg) σ25))))))))))))
  else
    (some ((0 : Int32), σ11)))
def f_X5_cut (v1 : Int32) (v2 : Int32) (v3 : Int32) (v4 : Int32) (v5 : Int32) (σ : sM) : Option (Int32 × sM) :=
    rthn (f_X5_isView v1 σ) (fun vr1 => if vr1 = 0 then
    (b_X5_cut_62 v1 v2 v3 v4 v5 (1 : Int32) σ)
  else
    (rthn (f_X5_isView v2 σ) (fun vr3 => if vr3 = 0 then
      (b_X5_cut_62 v1 v2 v3 v4 v5 (1 : Int32) σ)
    else
      (chk (inb v2 4) (if (σ 48 (v2).toNatClampNeg) = 0 then
        (b_X5_cut_62 v1 v2 v3 v4 v5 (2 : Int32) σ)
      else
        (rthn (f_X5_isIn v2 v4 σ) (fun vr7 => if vr7 = 0 then
          (b_X5_cut_62 v1 v2 v3 v4 v5 (3 : Int32) σ)
        else
          (chk (inb v2 4) (if (σ 54 (v2).toNatClampNeg) = (12 : Int32) then
            (b_X5_cut_62 v1 v2 v3 v4 v5 (4 : Int32) σ)
          else
            (b_X5_cut_62 v1 v2 v3 v4 v5 (0 : Int32) σ))))))))))
def b_X5_takes_12 : Nat → Int32 → Int32 → sM → Option (Unit × sM)
  | 0, _, _, _ => none
  | n + 1, v1, v3, σ =>
    chk (inb v1 3) (if (σ 47 (v1).toNatClampNeg) ≤ v3 then
    (some ((), σ))
  else
    (chk (inb ((((60 : Int32) * v1) + v3) + (1 : Int32)) 180) (chk (inb (((60 : Int32) * v1) + v3) 180) (stl (va_up σ 45 (upd (σ 45) ((((60 : Int32) * v1) + v3)).toNatClampNeg (σ 45 (((((60 : Int32) * v1) + v3) + (1 : Int32))).toNatClampNeg))) (fun σ8 => chk (inb ((((60 : Int32) * v1) + v3) + (1 : Int32)) 180) (chk (inb (((60 : Int32) * v1) + v3) 180) (stl (va_up σ8 46 (upd (σ8 46) ((((60 : Int32) * v1) + v3)).toNatClampNeg (σ8 46 (((((60 : Int32) * v1) + v3) + (1 : Int32))).toNatClampNeg))) (fun σ11 => b_X5_takes_12 n v1 (v3 + 1) σ11))))))))
def f_X5_takes (v1 : Int32) (v2 : Int32) (σ : sM) : Option (Unit × sM) :=
    chk (inb v1 3) (chk (inb v1 3) (stl (va_up σ 47 (upd (σ 47) (v1).toNatClampNeg ((σ 47 (v1).toNatClampNeg) - (1 : Int32)))) (fun σ3 => b_X5_takes_12 FU v1 v2 σ3)))
def b_X5_does_132 (v1 : Int32) (v3 : Int32) (v6 : Int32) (v7 : Int32) (vs0 : Int32) (σ : sM) : Option (Int32 × sM) :=
    wthn (f_X5_puts v1 v3 vs0 σ) (fun _ σ22 => if v6 = 0 then
    (some ((1 : Int32), σ22))
  else
    (if vs0 = v7 then
      (some ((0 : Int32), σ22))
    else
      (some ((1 : Int32), σ22))))
def b_X5_does_96 (v1 : Int32) (v3 : Int32) (v4 : Int32) (v5 : Int32) (v6 : Int32) (v7 : Int32) (σ : sM) : Option (Int32 × sM) :=
    if v5 = (120 : Int32) then
    (if v6 = 0 then
      (some ((0 : Int32), σ))
    else
      (if v5 = (115 : Int32) then
        (if v6 = 0 then
          (b_X5_does_132 v1 v3 v6 v7 v4 σ)
        else
          (b_X5_does_132 v1 v3 v6 v7 (v7 + v4) σ))
      else
        (b_X5_does_132 v1 v3 v6 v7 v4 σ)))
  else
    (if v5 = (115 : Int32) then
      (if v6 = 0 then
        (b_X5_does_132 v1 v3 v6 v7 v4 σ)
      else
        (b_X5_does_132 v1 v3 v6 v7 (v7 + v4) σ))
    else
      (b_X5_does_132 v1 v3 v6 v7 v4 σ))
def b_X5_does_56 (v1 : Int32) (v3 : Int32) (v4 : Int32) (v5 : Int32) (v6 : Int32) (vs0 : Int32) (σ : sM) : Option (Int32 × sM) :=
    if v5 = (114 : Int32) then
    (if v6 = 0 then
      (chk (isb v6) (some (v6, σ)))
    else
      (rthn (f_X5_placeOf v1 v3 σ) (fun vr13 => wthn (f_X5_takes v1 vr13 σ) (fun _ σ14 => chk (isb v6) (some (v6, σ14))))))
  else
    (if v5 = (97 : Int32) then
      (if v6 = 0 then
        (b_X5_does_96 v1 v3 v4 v5 v6 vs0 σ)
      else
        (some ((0 : Int32), σ)))
    else
      (b_X5_does_96 v1 v3 v4 v5 v6 vs0 σ))
def f_X5_does (v1 : Int32) (v2 : Int32) (σ : sM) : Option (Int32 × sM) :=
    chk (inb v2 90) (chk (inb v2 90) (chk (inb v2 90) (rthn (f_X5_has v1 (σ 56 (v2).toNatClampNeg) σ) (fun vr4 => if vr4 = 0 then
    (b_X5_does_56 v1 (σ 56 (v2).toNatClampNeg) (σ 57 (v2).toNatClampNeg) (σ 55 (v2).toNatClampNeg) vr4 (0 : Int32) σ)
  else
    (rthn (f_X5_placeOf v1 (σ 56 (v2).toNatClampNeg) σ) (fun vr6 => chk (inb (((60 : Int32) * v1) + vr6) 180) (b_X5_does_56 v1 (σ 56 (v2).toNatClampNeg) (σ 57 (v2).toNatClampNeg) (σ 55 (v2).toNatClampNeg) vr4 (σ 46 ((((60 : Int32) * v1) + vr6)).toNatClampNeg) σ)))))))
def f_X5_pollsAt (v1 : Int32) (v2 : Int32) (σ : sM) : Option (Int32 × sM) :=
    chk (inb (((60 : Int32) * v1) + v2) 180) (stl (va_up σ 44 (upd (σ 44) 18 (1 : Int32))) (fun σ2 => chk (inb (((60 : Int32) * v1) + v2) 180) (stl (va_up σ2 44 (upd (σ2 44) 19 (σ2 46 ((((60 : Int32) * v1) + v2)).toNatClampNeg))) (fun σ4 => wthn (f_X5_takes v1 v2 σ4) (fun _ σ5 => some ((σ 45 ((((60 : Int32) * v1) + v2)).toNatClampNeg), σ5))))))
def b_X5_drain_26 : Nat → Int32 → Int32 → sM → Option (Int32 × sM)
  | 0, _, _, _ => none
  | n + 1, v1, v2, σ =>
    chk (inb v1 3) (if (σ 47 (v1).toNatClampNeg) ≤ 0 then
    (some ((σ 44 17), σ))
  else
    (if v2 = 0 then
      (wthn (f_X5_pollsAt v1 (0 : Int32) σ) (fun vr12 σ12 => chk (inb (σ 44 17) 60) (stl (va_up σ12 60 (upd (σ12 60) ((σ 44 17)).toNatClampNeg vr12)) (fun σ14 => stl (va_up σ14 44 (upd (σ14 44) 17 ((σ14 44 17) + (1 : Int32)))) (fun σ15 => b_X5_drain_26 n v1 v2 σ15)))))
    else
      (chk (inb v1 3) (wthn (f_X5_pollsAt v1 ((σ 47 (v1).toNatClampNeg) - (1 : Int32)) σ) (fun vr17 σ17 => chk (inb (σ 44 17) 60) (stl (va_up σ17 60 (upd (σ17 60) ((σ 44 17)).toNatClampNeg vr17)) (fun σ19 => stl (va_up σ19 44 (upd (σ19 44) 17 ((σ19 44 17) + (1 : Int32)))) (fun σ20 => b_X5_drain_26 n v1 v2 σ20))))))))
def f_X5_drain (v1 : Int32) (v2 : Int32) (σ : sM) : Option (Int32 × sM) :=
    rthn (f_X5_isMap v1 σ) (fun vr1 => if vr1 = 0 then
    (wthn (f_X5_refused (1 : Int32) σ) (fun vr6 σ6 => if vr6 = 0 then
      (stl (va_up σ6 44 (upd (σ6 44) 17 (0 : Int32))) (fun σ8 => b_X5_drain_26 FU v1 v2 σ8))
    else
      (some ((0 : Int32), σ6))))
  else
    (wthn (f_X5_refused (0 : Int32) σ) (fun vr3 σ3 => if vr3 = 0 then
      (stl (va_up σ3 44 (upd (σ3 44) 17 (0 : Int32))) (fun σ5 => b_X5_drain_26 FU v1 v2 σ5))
    else
      (some ((0 : Int32), σ3)))))
def f_X5_drained (v1 : Int32) (σ : sM) : Option (Int32 × sM) :=
    rthn (f_X5_in v1 (0 : Int32) ((σ 44 17) - (1 : Int32)) σ) (fun vr1 => if vr1 = 0 then
    (wthn (f_X5_refused (1 : Int32) σ) (fun vr6 σ6 => if vr6 = 0 then
      (chk (inb v1 60) (some ((σ6 60 (v1).toNatClampNeg), σ6)))
    else
      (some ((0 : Int32), σ6))))
  else
    (wthn (f_X5_refused (0 : Int32) σ) (fun vr3 σ3 => if vr3 = 0 then
      (chk (inb v1 60) (some ((σ3 60 (v1).toNatClampNeg), σ3)))
    else
      (some ((0 : Int32), σ3)))))
def b_X5_end_26 (v1 : Int32) (v2 : Int32) (vs1 : Int32) (σ : sM) : Option (Int32 × sM) :=
    wthn (f_X5_refused vs1 σ) (fun vr5 σ5 => if vr5 = 0 then
    (if v2 = 0 then
      (chk (inb (((60 : Int32) * v1) + (0 : Int32)) 180) (some ((σ5 45 ((((60 : Int32) * v1) + (0 : Int32))).toNatClampNeg), σ5)))
    else
      (chk (inb v1 3) (chk (inb (((60 : Int32) * v1) + ((σ5 47 (v1).toNatClampNeg) - (1 : Int32))) 180) (some ((σ5 45 ((((60 : Int32) * v1) + ((σ5 47 (v1).toNatClampNeg) - (1 : Int32)))).toNatClampNeg), σ5)))))
  else
    (some ((0 : Int32), σ5)))
def f_X5_end (v1 : Int32) (v2 : Int32) (σ : sM) : Option (Int32 × sM) :=
    rthn (f_X5_isMap v1 σ) (fun vr1 => if vr1 = 0 then
    (b_X5_end_26 v1 v2 (1 : Int32) σ)
  else
    (chk (inb v1 3) (if (σ 47 (v1).toNatClampNeg) = 0 then
      (b_X5_end_26 v1 v2 (2 : Int32) σ)
    else
      (b_X5_end_26 v1 v2 (0 : Int32) σ))))
def f_X5_isHistory (v0 : Int32) (σ : sM) : Option Int32 :=
    rthn (f_X5_in v0 (0 : Int32) (2 : Int32) σ) (fun vr1 => chk (isb vr1) (some vr1))
def b_X5_forget_13 (v1 : Int32) (vs1 : Int32) (σ : sM) : Option (Int32 × sM) :=
    wthn (f_X5_refused vs1 σ) (fun vr3 σ3 => if vr3 = 0 then
    (chk (inb v1 3) (chk (inb v1 3) (stl (va_up σ3 58 (upd (σ3 58) (v1).toNatClampNeg (0 : Int32))) (fun σ7 => some ((σ3 58 (v1).toNatClampNeg), σ7)))))
  else
    (some ((0 : Int32), σ3)))
def f_X5_forget (v1 : Int32) (σ : sM) : Option (Int32 × sM) :=
    rthn (f_X5_isHistory v1 σ) (fun vr1 => if vr1 = 0 then
    (b_X5_forget_13 v1 (1 : Int32) σ)
  else
    (b_X5_forget_13 v1 (0 : Int32) σ))
def f_X5_fullShare (v1 : Int32) (σ : sM) : Option (UInt32 × sM) :=
    rthn (f_X5_isMap v1 σ) (fun vr1 => if vr1 = 0 then
    (wthn (f_X5_refused (1 : Int32) σ) (fun vr7 σ7 => if vr7 = 0 then
      (chk (inb v1 3) (chk (nn32 (FP.fdiv (FP.i2f (σ7 47 (v1).toNatClampNeg)) (1114636288 : UInt32))) (some ((FP.fdiv (FP.i2f (σ7 47 (v1).toNatClampNeg)) (1114636288 : UInt32)), σ7))))
    else
      (some (FP.fconst0, σ7))))
  else
    (wthn (f_X5_refused (0 : Int32) σ) (fun vr3 σ3 => if vr3 = 0 then
      (chk (inb v1 3) (chk (nn32 (FP.fdiv (FP.i2f (σ3 47 (v1).toNatClampNeg)) (1114636288 : UInt32))) (some ((FP.fdiv (FP.i2f (σ3 47 (v1).toNatClampNeg)) (1114636288 : UInt32)), σ3))))
    else
      (some (FP.fconst0, σ3)))))
def b_X5_gathers_108 (K2 : Int32 → Int32 → Int32 → sM → Option (Unit × sM)) : Nat → Int32 → Int32 → Int32 → Int32 → Int32 → Int32 → sM → Option (Unit × sM)
  | 0, _, _, _, _, _, _, _ => none
  | n + 1, v1, v2, v3, v4, v5, v7, σ =>
    if v7 ≤ v5 then
    (chk (inb v5 60) (stl (va_up σ 59 (upd (σ 59) (v5).toNatClampNeg v4)) (fun σ16 => stl (va_up σ16 44 (upd (σ16 44) 15 ((σ16 44 15) + (1 : Int32)))) (fun σ17 => K2 v1 v2 (v3 + 1) σ17))))
  else
    (chk (inb (v7 - (1 : Int32)) 60) (chk (inb v7 60) (stl (va_up σ 59 (upd (σ 59) (v7).toNatClampNeg (σ 59 ((v7 - (1 : Int32))).toNatClampNeg))) (fun σ20 => b_X5_gathers_108 K2 n v1 v2 v3 v4 v5 (v7 + (-1)) σ20))))
def b_X5_gathers_81 (K2 : Int32 → Int32 → Int32 → sM → Option (Unit × sM)) (v1 : Int32) (v2 : Int32) (v3 : Int32) (v4 : Int32) (v5 : Int32) (vs0 : Int32) (σ : sM) : Option (Unit × sM) :=
    if vs0 = 0 then
    (if v2 < 0 then
      (b_X5_gathers_108 K2 FU v1 v2 v3 v4 v5 (σ 44 15) σ)
    else
      (rthn (f_X5_has v2 v4 σ) (fun vr12 => if vr12 = 0 then
        (b_X5_gathers_108 K2 FU v1 v2 v3 v4 v5 (σ 44 15) σ)
      else
        (K2 v1 v2 (v3 + 1) σ))))
  else
    (K2 v1 v2 (v3 + 1) σ)
def b_X5_gathers_55 (K2 : Int32 → Int32 → Int32 → sM → Option (Unit × sM)) (v1 : Int32) (v2 : Int32) (v3 : Int32) (v4 : Int32) (v5 : Int32) (σ : sM) : Option (Unit × sM) :=
    if (σ 44 15) ≤ v5 then
    (b_X5_gathers_81 K2 v1 v2 v3 v4 v5 (0 : Int32) σ)
  else
    (chk (inb v5 60) (if (σ 59 (v5).toNatClampNeg) = v4 then
      (b_X5_gathers_81 K2 v1 v2 v3 v4 v5 (1 : Int32) σ)
    else
      (b_X5_gathers_81 K2 v1 v2 v3 v4 v5 (0 : Int32) σ)))
def b_X5_gathers_28 (K2 : Int32 → Int32 → Int32 → sM → Option (Unit × sM)) : Nat → Int32 → Int32 → Int32 → Int32 → Int32 → sM → Option (Unit × sM)
  | 0, _, _, _, _, _, _ => none
  | n + 1, v1, v2, v3, v4, v5, σ =>
    if (σ 44 15) ≤ v5 then
    (b_X5_gathers_55 K2 v1 v2 v3 v4 v5 σ)
  else
    (chk (inb v5 60) (if v4 ≤ (σ 59 (v5).toNatClampNeg) then
      (b_X5_gathers_55 K2 v1 v2 v3 v4 v5 σ)
    else
      (b_X5_gathers_28 K2 n v1 v2 v3 v4 (v5 + 1) σ)))
def b_X5_gathers_2 : Nat → Int32 → Int32 → Int32 → sM → Option (Unit × sM)
  | 0, _, _, _, _ => none
  | n + 1, v1, v2, v3, σ =>
    chk (inb v1 3) (if (σ 58 (v1).toNatClampNeg) ≤ v3 then
    (some ((), σ))
  else
    (chk (inb (((30 : Int32) * v1) + v3) 90) (b_X5_gathers_28 (b_X5_gathers_2 n) FU v1 v2 v3 (σ 56 ((((30 : Int32) * v1) + v3)).toNatClampNeg) (0 : Int32) σ)))
def f_X5_gathers (v1 : Int32) (v2 : Int32) (σ : sM) : Option (Unit × sM) :=
    b_X5_gathers_2 FU v1 v2 (0 : Int32) σ
def b_X5_hasKey_5 : Nat → Int32 → Int32 → Int32 → Int32 → sM → Option Int32
  | 0, _, _, _, _, _ => none
  | n + 1, v1, v2, v3, v4, σ =>
    chk (inb v1 3) (if (σ 58 (v1).toNatClampNeg) ≤ v4 then
    (chk (isb v3) (some v3))
  else
    (if v3 = 0 then
      (chk (inb (((30 : Int32) * v1) + v4) 90) (if (σ 56 ((((30 : Int32) * v1) + v4)).toNatClampNeg) = v2 then
        (b_X5_hasKey_5 n v1 v2 (1 : Int32) (v4 + 1) σ)
      else
        (b_X5_hasKey_5 n v1 v2 (0 : Int32) (v4 + 1) σ)))
    else
      (b_X5_hasKey_5 n v1 v2 (1 : Int32) (v4 + 1) σ)))
def f_X5_hasKey (v1 : Int32) (v2 : Int32) (σ : sM) : Option Int32 :=
    b_X5_hasKey_5 FU v1 v2 (0 : Int32) (0 : Int32) σ
def b_X5_isLike_52 : Nat → Int32 → Int32 → Int32 → Int32 → sM → Option (Int32 × sM)
  | 0, _, _, _, _, _ => none
  | n + 1, v1, v2, v3, v4, σ =>
    chk (inb v1 3) (if (σ 47 (v1).toNatClampNeg) ≤ v4 then
    (chk (isb v3) (some (v3, σ)))
  else
    (if v3 = 0 then
      (chk (isb v3) (some (v3, σ)))
    else
      (chk (inb (((60 : Int32) * v1) + v4) 180) (chk (inb (((60 : Int32) * v2) + v4) 180) (if (σ 45 ((((60 : Int32) * v1) + v4)).toNatClampNeg) = (σ 45 ((((60 : Int32) * v2) + v4)).toNatClampNeg) then
        (chk (inb (((60 : Int32) * v1) + v4) 180) (chk (inb (((60 : Int32) * v2) + v4) 180) (if (σ 46 ((((60 : Int32) * v1) + v4)).toNatClampNeg) = (σ 46 ((((60 : Int32) * v2) + v4)).toNatClampNeg) then
          (b_X5_isLike_52 n v1 v2 (1 : Int32) (v4 + 1) σ)
        else
          (b_X5_isLike_52 n v1 v2 (0 : Int32) (v4 + 1) σ))))
      else
        (b_X5_isLike_52 n v1 v2 (0 : Int32) (v4 + 1) σ))))))
def b_X5_isLike_20 (v1 : Int32) (v2 : Int32) (vs1 : Int32) (σ : sM) : Option (Int32 × sM) :=
    wthn (f_X5_refused vs1 σ) (fun vr5 σ5 => if vr5 = 0 then
    (chk (inb v1 3) (chk (inb v2 3) (if (σ5 47 (v1).toNatClampNeg) = (σ5 47 (v2).toNatClampNeg) then
      (b_X5_isLike_52 FU v1 v2 (1 : Int32) (0 : Int32) σ5)
    else
      (b_X5_isLike_52 FU v1 v2 (0 : Int32) (0 : Int32) σ5))))
  else
    (some ((0 : Int32), σ5)))
def f_X5_isLike (v1 : Int32) (v2 : Int32) (σ : sM) : Option (Int32 × sM) :=
    rthn (f_X5_isMap v1 σ) (fun vr1 => if vr1 = 0 then
    (b_X5_isLike_20 v1 v2 (1 : Int32) σ)
  else
    (rthn (f_X5_isMap v2 σ) (fun vr3 => if vr3 = 0 then
      (b_X5_isLike_20 v1 v2 (1 : Int32) σ)
    else
      (b_X5_isLike_20 v1 v2 (0 : Int32) σ))))
def f_X5_isOnSide (v0 : Int32) (v1 : Int32) (v2 : Int32) (σ : sM) : Option Int32 :=
    if v2 = (102 : Int32) then
    (if v1 < v0 then
      (some (0 : Int32))
    else
      (some (1 : Int32)))
  else
    (if v2 = (99 : Int32) then
      (if v0 < v1 then
        (some (0 : Int32))
      else
        (some (1 : Int32)))
    else
      (if v2 = (104 : Int32) then
        (if v0 ≤ v1 then
          (some (0 : Int32))
        else
          (some (1 : Int32)))
      else
        (if v1 ≤ v0 then
          (some (0 : Int32))
        else
          (some (1 : Int32)))))
def f_X5_isSound (σ : sM) : Option (Int32 × sM) :=
    stl (va_up σ 44 (upd (σ 44) 20 (0 : Int32))) (fun σ1 => some ((1 : Int32), σ1))
def f_X5_isTooMuch (v1 : Int32) (v2 : Int32) (v3 : Int32) (σ : sM) : Option (Int32 × sM) :=
    stl (va_up σ 44 (upd (σ 44) 15 (0 : Int32))) (fun σ1 => wthn (f_X5_gathers v1 v3 σ1) (fun _ σ2 => wthn (f_X5_gathers v2 v3 σ2) (fun _ σ3 => chk (inb v3 3) (if ((σ3 47 (v3).toNatClampNeg) + (σ3 44 15)) ≤ (60 : Int32) then
    (some ((0 : Int32), σ3))
  else
    (some ((1 : Int32), σ3))))))
def f_X5_isWay (v0 : Int32) (σ : sM) : Option Int32 :=
    if v0 = (102 : Int32) then
    (some (1 : Int32))
  else
    (if v0 = (99 : Int32) then
      (some (1 : Int32))
    else
      (if v0 = (104 : Int32) then
        (some (1 : Int32))
      else
        (if v0 = (108 : Int32) then
          (some (1 : Int32))
        else
          (some (0 : Int32)))))
def b_X5_keyAt_29 (v1 : Int32) (v2 : Int32) (v3 : Int32) (vs1 : Int32) (σ : sM) : Option (Int32 × sM) :=
    wthn (f_X5_refused vs1 σ) (fun vr6 σ6 => if vr6 = 0 then
    (if v3 = 0 then
      (chk (inb (((60 : Int32) * v1) + v2) 180) (some ((σ6 45 ((((60 : Int32) * v1) + v2)).toNatClampNeg), σ6)))
    else
      (chk (inb v1 3) (chk (inb (((60 : Int32) * v1) + (((σ6 47 (v1).toNatClampNeg) - (1 : Int32)) - v2)) 180) (some ((σ6 45 ((((60 : Int32) * v1) + (((σ6 47 (v1).toNatClampNeg) - (1 : Int32)) - v2))).toNatClampNeg), σ6)))))
  else
    (some ((0 : Int32), σ6)))
def f_X5_keyAt (v1 : Int32) (v2 : Int32) (v3 : Int32) (σ : sM) : Option (Int32 × sM) :=
    rthn (f_X5_isMap v1 σ) (fun vr1 => if vr1 = 0 then
    (b_X5_keyAt_29 v1 v2 v3 (1 : Int32) σ)
  else
    (chk (inb v1 3) (rthn (f_X5_in v2 (0 : Int32) ((σ 47 (v1).toNatClampNeg) - (1 : Int32)) σ) (fun vr4 => if vr4 = 0 then
      (b_X5_keyAt_29 v1 v2 v3 (1 : Int32) σ)
    else
      (b_X5_keyAt_29 v1 v2 v3 (0 : Int32) σ)))))
def f_X5_lies (v1 : Int32) (v2 : Int32) (σ : sM) : Option (Int32 × sM) :=
    rthn (f_X5_isView v1 σ) (fun vr1 => if vr1 = 0 then
    (wthn (f_X5_refused (1 : Int32) σ) (fun vr13 σ13 => if vr13 = 0 then
      (rthn (f_X5_isIn v1 v2 σ13) (fun vr15 => if vr15 = 0 then
        (some ((0 : Int32), σ13))
      else
        (some ((1 : Int32), σ13))))
    else
      (some ((0 : Int32), σ13))))
  else
    (chk (inb v1 4) (if (σ 48 (v1).toNatClampNeg) = 0 then
      (wthn (f_X5_refused (2 : Int32) σ) (fun vr9 σ9 => if vr9 = 0 then
        (rthn (f_X5_isIn v1 v2 σ9) (fun vr11 => if vr11 = 0 then
          (some ((0 : Int32), σ9))
        else
          (some ((1 : Int32), σ9))))
      else
        (some ((0 : Int32), σ9))))
    else
      (wthn (f_X5_refused (0 : Int32) σ) (fun vr5 σ5 => if vr5 = 0 then
        (rthn (f_X5_isIn v1 v2 σ5) (fun vr7 => if vr7 = 0 then
          (some ((0 : Int32), σ5))
        else
          (some ((1 : Int32), σ5))))
      else
        (some ((0 : Int32), σ5)))))))
def b_X5_mark_25 : Nat → Int32 → Int32 → Int32 → sM → Option (Int32 × sM)
  | 0, _, _, _, _ => none
  | n + 1, v1, v2, v3, σ =>
    chk (inb v1 3) (if (σ 47 (v1).toNatClampNeg) ≤ v3 then
    (some (v2, σ))
  else
    (chk (inb (((60 : Int32) * v1) + v3) 180) (chk (inb (((60 : Int32) * v1) + v3) 180) (b_X5_mark_25 n v1 (v2 + ((σ 45 ((((60 : Int32) * v1) + v3)).toNatClampNeg) ^^^ (σ 46 ((((60 : Int32) * v1) + v3)).toNatClampNeg))) (v3 + 1) σ))))
def f_X5_mark (v1 : Int32) (σ : sM) : Option (Int32 × sM) :=
    rthn (f_X5_isMap v1 σ) (fun vr1 => if vr1 = 0 then
    (wthn (f_X5_refused (1 : Int32) σ) (fun vr5 σ5 => if vr5 = 0 then
      (b_X5_mark_25 FU v1 (0 : Int32) (0 : Int32) σ5)
    else
      (some ((0 : Int32), σ5))))
  else
    (wthn (f_X5_refused (0 : Int32) σ) (fun vr3 σ3 => if vr3 = 0 then
      (b_X5_mark_25 FU v1 (0 : Int32) (0 : Int32) σ3)
    else
      (some ((0 : Int32), σ3)))))
def b_X5_meanKey_39 : Nat → Int32 → Int64 → Int32 → sM → Option (UInt64 × sM)
  | 0, _, _, _, _ => none
  | n + 1, v1, v2, v4, σ =>
    chk (inb v1 3) (if (σ 47 (v1).toNatClampNeg) ≤ v4 then
    (chk (inb v1 3) (chk (nn64 (FP.ddiv (FP.l2d v2) (FP.i2d (σ 47 (v1).toNatClampNeg)))) (some ((FP.ddiv (FP.l2d v2) (FP.i2d (σ 47 (v1).toNatClampNeg))), σ))))
  else
    (chk (inb (((60 : Int32) * v1) + v4) 180) (b_X5_meanKey_39 n v1 (v2 + ((σ 45 ((((60 : Int32) * v1) + v4)).toNatClampNeg).toInt64)) (v4 + 1) σ)))
def f_X5_meanKey (v1 : Int32) (σ : sM) : Option (UInt64 × sM) :=
    rthn (f_X5_isMap v1 σ) (fun vr1 => if vr1 = 0 then
    (wthn (f_X5_refused (1 : Int32) σ) (fun vr9 σ9 => if vr9 = 0 then
      (b_X5_meanKey_39 FU v1 (0 : Int64) (0 : Int32) σ9)
    else
      (some (FP.dconst0, σ9))))
  else
    (chk (inb v1 3) (if (σ 47 (v1).toNatClampNeg) = 0 then
      (wthn (f_X5_refused (2 : Int32) σ) (fun vr7 σ7 => if vr7 = 0 then
        (b_X5_meanKey_39 FU v1 (0 : Int64) (0 : Int32) σ7)
      else
        (some (FP.dconst0, σ7))))
    else
      (wthn (f_X5_refused (0 : Int32) σ) (fun vr5 σ5 => if vr5 = 0 then
        (b_X5_meanKey_39 FU v1 (0 : Int64) (0 : Int32) σ5)
      else
        (some (FP.dconst0, σ5)))))))
def b_X5_meet_44 : Nat → Int32 → Int32 → Int32 → sM → Option (Int32 × sM)
  | 0, _, _, _, _ => none
  | n + 1, v2, v3, v4, σ =>
    if (σ 44 15) ≤ v4 then
    (some (v3, σ))
  else
    (chk (inb v4 60) (rthn (f_X5_hasKey v2 (σ 59 (v4).toNatClampNeg) σ) (fun vr11 => if vr11 = 0 then
      (b_X5_meet_44 n v2 (v3 + (0 : Int32)) (v4 + 1) σ)
    else
      (b_X5_meet_44 n v2 (v3 + (1 : Int32)) (v4 + 1) σ))))
def b_X5_meet_20 (v1 : Int32) (v2 : Int32) (vs1 : Int32) (σ : sM) : Option (Int32 × sM) :=
    wthn (f_X5_refused vs1 σ) (fun vr5 σ5 => if vr5 = 0 then
    (stl (va_up σ5 44 (upd (σ5 44) 15 (0 : Int32))) (fun σ7 => wthn (f_X5_gathers v1 (-1 : Int32) σ7) (fun _ σ8 => b_X5_meet_44 FU v2 (0 : Int32) (0 : Int32) σ8)))
  else
    (some ((0 : Int32), σ5)))
def f_X5_meet (v1 : Int32) (v2 : Int32) (σ : sM) : Option (Int32 × sM) :=
    rthn (f_X5_isHistory v1 σ) (fun vr1 => if vr1 = 0 then
    (b_X5_meet_20 v1 v2 (1 : Int32) σ)
  else
    (rthn (f_X5_isHistory v2 σ) (fun vr3 => if vr3 = 0 then
      (b_X5_meet_20 v1 v2 (1 : Int32) σ)
    else
      (b_X5_meet_20 v1 v2 (0 : Int32) σ))))
def b_X5_nearAt_6 : Nat → Int32 → Int32 → Int32 → Int32 → Int32 → Int32 → sM → Option Int32
  | 0, _, _, _, _, _, _, _ => none
  | n + 1, v1, v3, v4, v5, v6, v7, σ =>
    if v3 ≤ v7 then
    (some v6)
  else
    (chk (inb (((60 : Int32) * v1) + v7) 180) (rthn (f_X5_isOnSide (σ 45 ((((60 : Int32) * v1) + v7)).toNatClampNeg) v4 v5 σ) (fun vr3 => if vr3 = 0 then
      (b_X5_nearAt_6 n v1 v3 v4 v5 v6 (v7 + 1) σ)
    else
      (if v6 < 0 then
        (b_X5_nearAt_6 n v1 v3 v4 v5 v7 (v7 + 1) σ)
      else
        (if v5 = (102 : Int32) then
          (b_X5_nearAt_6 n v1 v3 v4 v5 v7 (v7 + 1) σ)
        else
          (if v5 = (108 : Int32) then
            (b_X5_nearAt_6 n v1 v3 v4 v5 v7 (v7 + 1) σ)
          else
            (b_X5_nearAt_6 n v1 v3 v4 v5 v6 (v7 + 1) σ)))))))
def f_X5_nearAt (v1 : Int32) (v2 : Int32) (v3 : Int32) (v4 : Int32) (v5 : Int32) (σ : sM) : Option Int32 :=
    b_X5_nearAt_6 FU v1 v3 v4 v5 (-1 : Int32) v2 σ
def b_X5_near_45 (v1 : Int32) (v2 : Int32) (v3 : Int32) (vs1 : Int32) (σ : sM) : Option (Int32 × sM) :=
    wthn (f_X5_refused vs1 σ) (fun vr8 σ8 => if vr8 = 0 then
    (chk (inb v1 3) (rthn (f_X5_nearAt v1 (0 : Int32) (σ8 47 (v1).toNatClampNeg) v2 v3 σ8) (fun vr11 => chk (inb (((60 : Int32) * v1) + vr11) 180) (some ((σ8 45 ((((60 : Int32) * v1) + vr11)).toNatClampNeg), σ8)))))
  else
    (some ((0 : Int32), σ8)))
def f_X5_near (v1 : Int32) (v2 : Int32) (v3 : Int32) (σ : sM) : Option (Int32 × sM) :=
    rthn (f_X5_isMap v1 σ) (fun vr1 => if vr1 = 0 then
    (b_X5_near_45 v1 v2 v3 (1 : Int32) σ)
  else
    (rthn (f_X5_isWay v3 σ) (fun vr3 => if vr3 = 0 then
      (b_X5_near_45 v1 v2 v3 (2 : Int32) σ)
    else
      (chk (inb v1 3) (rthn (f_X5_nearAt v1 (0 : Int32) (σ 47 (v1).toNatClampNeg) v2 v3 σ) (fun vr6 => if 0 ≤ vr6 then
        (b_X5_near_45 v1 v2 v3 (0 : Int32) σ)
      else
        (b_X5_near_45 v1 v2 v3 (3 : Int32) σ)))))))
def b_X5_open_30 (v1 : Int32) (v2 : Int32) (v3 : Int32) (v4 : Int32) (v5 : Int32) (v6 : Int32) (vs1 : Int32) (σ : sM) : Option (Int32 × sM) :=
    wthn (f_X5_refused vs1 σ) (fun vr6 σ6 => if vr6 = 0 then
    (chk (inb v1 4) (stl (va_up σ6 48 (upd (σ6 48) (v1).toNatClampNeg (vp_nar .boolean (1 : Int32)))) (fun σ9 => chk (inb v1 4) (stl (va_up σ9 49 (upd (σ9 49) (v1).toNatClampNeg v2)) (fun σ11 => chk (inb v1 4) (stl (va_up σ11 50 (upd (σ11 50) (v1).toNatClampNeg v3)) (fun σ13 => chk (inb v1 4) (stl (va_up σ13 52 (upd (σ13 52) (v1).toNatClampNeg (vp_nar .boolean v4))) (fun σ15 => chk (inb v1 4) (stl (va_up σ15 51 (upd (σ15 51) (v1).toNatClampNeg v5)) (fun σ17 => chk (inb v1 4) (stl (va_up σ17 53 (upd (σ17 53) (v1).toNatClampNeg (vp_nar .boolean v6))) (fun σ19 => chk (inb v1 4) (stl (va_up σ19 54 (upd (σ19 54) (v1).toNatClampNeg (0 : Int32))) (fun σ21 => rthn (f_X5_manyOf v1 σ21) (fun vr22 => some (vr22, σ21)))))))))))))))))
  else
    (some ((0 : Int32), σ6)))
def f_X5_open (v1 : Int32) (v2 : Int32) (v3 : Int32) (v4 : Int32) (v5 : Int32) (v6 : Int32) (σ : sM) : Option (Int32 × sM) :=
    rthn (f_X5_isView v1 σ) (fun vr1 => if vr1 = 0 then
    (b_X5_open_30 v1 v2 v3 v4 v5 v6 (1 : Int32) σ)
  else
    (rthn (f_X5_isMap v2 σ) (fun vr3 => if vr3 = 0 then
      (b_X5_open_30 v1 v2 v3 v4 v5 v6 (1 : Int32) σ)
    else
      (if v3 ≤ v5 then
        (b_X5_open_30 v1 v2 v3 v4 v5 v6 (0 : Int32) σ)
      else
        (b_X5_open_30 v1 v2 v3 v4 v5 v6 (2 : Int32) σ)))))
def b_X5_opposite_93 (K56 : Int32 → Int32 → Int32 → sM → Option (Int32 × sM)) (v2 : Int32) (v3 : Int32) (v4 : Int32) (v5 : Int32) (vs1 : Int32) (vs2 : Int32) (σ : sM) : Option (Int32 × sM) :=
    chk (inb v4 60) (if 0 ≤ v5 then
    (chk (inb (((60 : Int32) * v2) + v5) 180) (wthn (f_X5_adds vs1 vs2 (σ 59 (v4).toNatClampNeg) (σ 46 ((((60 : Int32) * v2) + v5)).toNatClampNeg) σ) (fun _ σ21 => K56 v2 v3 (v4 + 1) σ21)))
  else
    (wthn (f_X5_adds vs1 vs2 (σ 59 (v4).toNatClampNeg) (0 : Int32) σ) (fun _ σ22 => K56 v2 v3 (v4 + 1) σ22)))
def b_X5_opposite_56 : Nat → Int32 → Int32 → Int32 → sM → Option (Int32 × sM)
  | 0, _, _, _, _ => none
  | n + 1, v2, v3, v4, σ =>
    if (σ 44 15) ≤ v4 then
    (chk (inb v3 3) (some ((σ 58 (v3).toNatClampNeg), σ)))
  else
    (chk (inb v4 60) (rthn (f_X5_placeOf v2 (σ 59 (v4).toNatClampNeg) σ) (fun vr16 => if 0 ≤ vr16 then
      (b_X5_opposite_93 (b_X5_opposite_56 n) v2 v3 v4 vr16 v3 (112 : Int32) σ)
    else
      (b_X5_opposite_93 (b_X5_opposite_56 n) v2 v3 v4 vr16 v3 (114 : Int32) σ))))
def b_X5_opposite_27 (v1 : Int32) (v2 : Int32) (v3 : Int32) (vs1 : Int32) (σ : sM) : Option (Int32 × sM) :=
    wthn (f_X5_refused vs1 σ) (fun vr7 σ7 => if vr7 = 0 then
    (stl (va_up σ7 44 (upd (σ7 44) 15 (0 : Int32))) (fun σ9 => wthn (f_X5_gathers v1 (-1 : Int32) σ9) (fun _ σ10 => chk (inb v3 3) (stl (va_up σ10 58 (upd (σ10 58) (v3).toNatClampNeg (0 : Int32))) (fun σ12 => b_X5_opposite_56 FU v2 v3 (0 : Int32) σ12)))))
  else
    (some ((0 : Int32), σ7)))
def f_X5_opposite (v1 : Int32) (v2 : Int32) (v3 : Int32) (σ : sM) : Option (Int32 × sM) :=
    rthn (f_X5_isHistory v1 σ) (fun vr1 => if vr1 = 0 then
    (b_X5_opposite_27 v1 v2 v3 (1 : Int32) σ)
  else
    (rthn (f_X5_isMap v2 σ) (fun vr3 => if vr3 = 0 then
      (b_X5_opposite_27 v1 v2 v3 (1 : Int32) σ)
    else
      (rthn (f_X5_isHistory v3 σ) (fun vr5 => if vr5 = 0 then
        (b_X5_opposite_27 v1 v2 v3 (1 : Int32) σ)
      else
        (b_X5_opposite_27 v1 v2 v3 (0 : Int32) σ))))))
def b_X5_play_47 : Nat → Int32 → Int32 → Int32 → Int32 → sM → Option (Int32 × sM)
  | 0, _, _, _, _, _ => none
  | n + 1, v1, v2, v3, v4, σ =>
    chk (inb v1 3) (if (σ 58 (v1).toNatClampNeg) ≤ v4 then
    (some (v3, σ))
  else
    (wthn (f_X5_does v2 (((30 : Int32) * v1) + v4) σ) (fun vr17 σ17 => if vr17 = 0 then
      (b_X5_play_47 n v1 v2 (v3 + (0 : Int32)) (v4 + 1) σ17)
    else
      (b_X5_play_47 n v1 v2 (v3 + (1 : Int32)) (v4 + 1) σ17))))
def f_X5_play (v1 : Int32) (v2 : Int32) (σ : sM) : Option (Int32 × sM) :=
    rthn (f_X5_isHistory v1 σ) (fun vr1 => if vr1 = 0 then
    (wthn (f_X5_refused (1 : Int32) σ) (fun vr3 σ3 => if vr3 = 0 then
      (b_X5_play_47 FU v1 v2 (0 : Int32) (0 : Int32) σ3)
    else
      (some ((0 : Int32), σ3))))
  else
    (rthn (f_X5_isMap v2 σ) (fun vr5 => if vr5 = 0 then
      (wthn (f_X5_refused (1 : Int32) σ) (fun vr13 σ13 => if vr13 = 0 then
        (b_X5_play_47 FU v1 v2 (0 : Int32) (0 : Int32) σ13)
      else
        (some ((0 : Int32), σ13))))
    else
      (wthn (f_X5_isTooMuch v1 v1 v2 σ) (fun vr7 σ7 => if vr7 = 0 then
        (wthn (f_X5_refused (0 : Int32) σ7) (fun vr9 σ9 => if vr9 = 0 then
          (b_X5_play_47 FU v1 v2 (0 : Int32) (0 : Int32) σ9)
        else
          (some ((0 : Int32), σ9))))
      else
        (wthn (f_X5_refused (2 : Int32) σ7) (fun vr11 σ11 => if vr11 = 0 then
          (b_X5_play_47 FU v1 v2 (0 : Int32) (0 : Int32) σ11)
        else
          (some ((0 : Int32), σ11)))))))))
def b_X5_playBoth_178 (K60 : Int32 → Int32 → Int32 → Int32 → Int32 → Int32 → Int32 → sM → Option (Int32 × sM)) (v1 : Int32) (v2 : Int32) (v3 : Int32) (v4 : Int32) (v6 : Int32) (v7 : Int32) (v8 : Int32) (vs0 : Int32) (vs1 : Int32) (σ : sM) : Option (Int32 × sM) :=
    if v8 = 0 then
    (K60 v1 v2 v3 v4 (vs0 + vs1) (v6 + (0 : Int32)) (v7 + 1) σ)
  else
    (K60 v1 v2 v3 v4 (vs0 + vs1) (v6 + (1 : Int32)) (v7 + 1) σ)
def b_X5_playBoth_134 (K60 : Int32 → Int32 → Int32 → Int32 → Int32 → Int32 → Int32 → sM → Option (Int32 × sM)) (v1 : Int32) (v2 : Int32) (v3 : Int32) (v4 : Int32) (v5 : Int32) (v6 : Int32) (v7 : Int32) (vs0 : Int32) (σ : sM) : Option (Int32 × sM) :=
    if vs0 = 0 then
    (wthn (f_X5_does v4 (((30 : Int32) * v1) + v5) σ) (fun vr32 σ32 => if vs0 = 0 then
      (b_X5_playBoth_178 K60 v1 v2 v3 v4 v6 v7 vs0 v5 (1 : Int32) σ32)
    else
      (b_X5_playBoth_178 K60 v1 v2 v3 v4 v6 v7 vs0 v5 (0 : Int32) σ32)))
  else
    (wthn (f_X5_does v4 (((30 : Int32) * v2) + v6) σ) (fun vr34 σ34 => if vs0 = 0 then
      (b_X5_playBoth_178 K60 v1 v2 v3 v4 v6 v7 vs0 v5 (1 : Int32) σ34)
    else
      (b_X5_playBoth_178 K60 v1 v2 v3 v4 v6 v7 vs0 v5 (0 : Int32) σ34)))
def b_X5_playBoth_100 (K60 : Int32 → Int32 → Int32 → Int32 → Int32 → Int32 → Int32 → sM → Option (Int32 × sM)) (v1 : Int32) (v2 : Int32) (v3 : Int32) (v4 : Int32) (v5 : Int32) (v6 : Int32) (v7 : Int32) (vs0 : Int32) (σ : sM) : Option (Int32 × sM) :=
    chk (inb v1 3) (if v5 = (σ 58 (v1).toNatClampNeg) then
    (b_X5_playBoth_134 K60 v1 v2 v3 v4 v5 v6 v7 (1 : Int32) σ)
  else
    (if vs0 = 0 then
      (b_X5_playBoth_134 K60 v1 v2 v3 v4 v5 v6 v7 (0 : Int32) σ)
    else
      (chk (inb v2 3) (if (σ 58 (v2).toNatClampNeg) ≤ v6 then
        (b_X5_playBoth_134 K60 v1 v2 v3 v4 v5 v6 v7 (0 : Int32) σ)
      else
        (b_X5_playBoth_134 K60 v1 v2 v3 v4 v5 v6 v7 (1 : Int32) σ)))))
def b_X5_playBoth_60 : Nat → Int32 → Int32 → Int32 → Int32 → Int32 → Int32 → Int32 → sM → Option (Int32 × sM)
  | 0, _, _, _, _, _, _, _, _ => none
  | n + 1, v1, v2, v3, v4, v5, v6, v7, σ =>
    chk (inb v1 3) (if v5 < (σ 58 (v1).toNatClampNeg) then
    (if (((v3.toUInt32 >>> ((v7 - v7 / (32 : Int32) * (32 : Int32)).toUInt32 &&& Int32.toUInt32 31)).toInt32) &&& (1 : Int32)) = (1 : Int32) then
      (b_X5_playBoth_100 (b_X5_playBoth_60 n) v1 v2 v3 v4 v5 v6 v7 (1 : Int32) σ)
    else
      (b_X5_playBoth_100 (b_X5_playBoth_60 n) v1 v2 v3 v4 v5 v6 v7 (0 : Int32) σ))
  else
    (chk (inb v2 3) (if (σ 58 (v2).toNatClampNeg) ≤ v6 then
      (chk (inb v4 3) (some ((σ 47 (v4).toNatClampNeg), σ)))
    else
      (if (((v3.toUInt32 >>> ((v7 - v7 / (32 : Int32) * (32 : Int32)).toUInt32 &&& Int32.toUInt32 31)).toInt32) &&& (1 : Int32)) = (1 : Int32) then
        (b_X5_playBoth_100 (b_X5_playBoth_60 n) v1 v2 v3 v4 v5 v6 v7 (1 : Int32) σ)
      else
        (b_X5_playBoth_100 (b_X5_playBoth_60 n) v1 v2 v3 v4 v5 v6 v7 (0 : Int32) σ)))))
def f_X5_playBoth (v1 : Int32) (v2 : Int32) (v3 : Int32) (v4 : Int32) (σ : sM) : Option (Int32 × sM) :=
    rthn (f_X5_isHistory v1 σ) (fun vr1 => if vr1 = 0 then
    (wthn (f_X5_refused (1 : Int32) σ) (fun vr3 σ3 => if vr3 = 0 then
      (b_X5_playBoth_60 FU v1 v2 v3 v4 (0 : Int32) (0 : Int32) (0 : Int32) σ3)
    else
      (some ((0 : Int32), σ3))))
  else
    (rthn (f_X5_isHistory v2 σ) (fun vr5 => if vr5 = 0 then
      (wthn (f_X5_refused (1 : Int32) σ) (fun vr7 σ7 => if vr7 = 0 then
        (b_X5_playBoth_60 FU v1 v2 v3 v4 (0 : Int32) (0 : Int32) (0 : Int32) σ7)
      else
        (some ((0 : Int32), σ7))))
    else
      (rthn (f_X5_isMap v4 σ) (fun vr9 => if vr9 = 0 then
        (wthn (f_X5_refused (1 : Int32) σ) (fun vr17 σ17 => if vr17 = 0 then
          (b_X5_playBoth_60 FU v1 v2 v3 v4 (0 : Int32) (0 : Int32) (0 : Int32) σ17)
        else
          (some ((0 : Int32), σ17))))
      else
        (wthn (f_X5_isTooMuch v1 v2 v4 σ) (fun vr11 σ11 => if vr11 = 0 then
          (wthn (f_X5_refused (0 : Int32) σ11) (fun vr13 σ13 => if vr13 = 0 then
            (b_X5_playBoth_60 FU v1 v2 v3 v4 (0 : Int32) (0 : Int32) (0 : Int32) σ13)
          else
            (some ((0 : Int32), σ13))))
        else
          (wthn (f_X5_refused (2 : Int32) σ11) (fun vr15 σ15 => if vr15 = 0 then
            (b_X5_playBoth_60 FU v1 v2 v3 v4 (0 : Int32) (0 : Int32) (0 : Int32) σ15)
          else
            (some ((0 : Int32), σ15)))))))))))
def b_X5_poll_26 (v1 : Int32) (v2 : Int32) (vs1 : Int32) (σ : sM) : Option (Int32 × sM) :=
    wthn (f_X5_refused vs1 σ) (fun vr5 σ5 => if vr5 = 0 then
    (if v2 = 0 then
      (wthn (f_X5_pollsAt v1 (0 : Int32) σ5) (fun vr8 σ8 => some (vr8, σ8)))
    else
      (chk (inb v1 3) (wthn (f_X5_pollsAt v1 ((σ5 47 (v1).toNatClampNeg) - (1 : Int32)) σ5) (fun vr10 σ10 => some (vr10, σ10)))))
  else
    (some ((0 : Int32), σ5)))
def f_X5_poll (v1 : Int32) (v2 : Int32) (σ : sM) : Option (Int32 × sM) :=
    rthn (f_X5_isMap v1 σ) (fun vr1 => if vr1 = 0 then
    (b_X5_poll_26 v1 v2 (1 : Int32) σ)
  else
    (chk (inb v1 3) (if (σ 47 (v1).toNatClampNeg) = 0 then
      (b_X5_poll_26 v1 v2 (2 : Int32) σ)
    else
      (b_X5_poll_26 v1 v2 (0 : Int32) σ))))
def f_X5_polled (σ : sM) : Option (Int32 × sM) :=
    if (σ 44 18) = 0 then
    (wthn (f_X5_refused (1 : Int32) σ) (fun vr4 σ4 => if vr4 = 0 then
      (some ((σ4 44 19), σ4))
    else
      (some ((0 : Int32), σ4))))
  else
    (wthn (f_X5_refused (0 : Int32) σ) (fun vr2 σ2 => if vr2 = 0 then
      (some ((σ2 44 19), σ2))
    else
      (some ((0 : Int32), σ2))))
def b_X5_put_36 (v1 : Int32) (v2 : Int32) (v3 : Int32) (σ : sM) : Option (Int32 × sM) :=
    wthn (f_X5_refused (0 : Int32) σ) (fun vr15 σ15 => if vr15 = 0 then
    (wthn (f_X5_puts v1 v2 v3 σ15) (fun _ σ17 => chk (inb v1 3) (some ((σ17 47 (v1).toNatClampNeg), σ17))))
  else
    (some ((0 : Int32), σ15)))
def f_X5_put (v1 : Int32) (v2 : Int32) (v3 : Int32) (σ : sM) : Option (Int32 × sM) :=
    rthn (f_X5_isMap v1 σ) (fun vr1 => if vr1 = 0 then
    (wthn (f_X5_refused (1 : Int32) σ) (fun vr11 σ11 => if vr11 = 0 then
      (wthn (f_X5_puts v1 v2 v3 σ11) (fun _ σ13 => chk (inb v1 3) (some ((σ13 47 (v1).toNatClampNeg), σ13))))
    else
      (some ((0 : Int32), σ11))))
  else
    (chk (inb v1 3) (if (σ 47 (v1).toNatClampNeg) = (60 : Int32) then
      (rthn (f_X5_has v1 v2 σ) (fun vr5 => if vr5 = 0 then
        (wthn (f_X5_refused (2 : Int32) σ) (fun vr7 σ7 => if vr7 = 0 then
          (wthn (f_X5_puts v1 v2 v3 σ7) (fun _ σ9 => chk (inb v1 3) (some ((σ9 47 (v1).toNatClampNeg), σ9))))
        else
          (some ((0 : Int32), σ7))))
      else
        (b_X5_put_36 v1 v2 v3 σ)))
    else
      (b_X5_put_36 v1 v2 v3 σ))))
def b_X5_remove_13 (v1 : Int32) (v2 : Int32) (vs1 : Int32) (σ : sM) : Option (Int32 × sM) :=
    wthn (f_X5_refused vs1 σ) (fun vr3 σ3 => if vr3 = 0 then
    (rthn (f_X5_has v1 v2 σ3) (fun vr5 => if vr5 = 0 then
      (chk (inb v1 3) (some ((σ3 47 (v1).toNatClampNeg), σ3)))
    else
      (rthn (f_X5_placeOf v1 v2 σ3) (fun vr8 => wthn (f_X5_takes v1 vr8 σ3) (fun _ σ9 => chk (inb v1 3) (some ((σ9 47 (v1).toNatClampNeg), σ9)))))))
  else
    (some ((0 : Int32), σ3)))
def f_X5_remove (v1 : Int32) (v2 : Int32) (σ : sM) : Option (Int32 × sM) :=
    rthn (f_X5_isMap v1 σ) (fun vr1 => if vr1 = 0 then
    (b_X5_remove_13 v1 v2 (1 : Int32) σ)
  else
    (b_X5_remove_13 v1 v2 (0 : Int32) σ))
def f_X5_size (v1 : Int32) (σ : sM) : Option (Int32 × sM) :=
    rthn (f_X5_isMap v1 σ) (fun vr1 => if vr1 = 0 then
    (wthn (f_X5_refused (1 : Int32) σ) (fun vr6 σ6 => if vr6 = 0 then
      (chk (inb v1 3) (some ((σ6 47 (v1).toNatClampNeg), σ6)))
    else
      (some ((0 : Int32), σ6))))
  else
    (wthn (f_X5_refused (0 : Int32) σ) (fun vr3 σ3 => if vr3 = 0 then
      (chk (inb v1 3) (some ((σ3 47 (v1).toNatClampNeg), σ3)))
    else
      (some ((0 : Int32), σ3)))))
def b_X5_step_74 (v1 : Int32) (v2 : Int32) (v3 : Int32) (v4 : Int32) (vs1 : Int32) (σ : sM) : Option (Int32 × sM) :=
    wthn (f_X5_refused vs1 σ) (fun vr11 σ11 => if vr11 = 0 then
    (wthn (f_X5_adds v1 v2 v3 v4 σ11) (fun _ σ13 => chk (inb v1 3) (some ((σ13 58 (v1).toNatClampNeg), σ13))))
  else
    (some ((0 : Int32), σ11)))
def b_X5_step_35 (v1 : Int32) (v2 : Int32) (v3 : Int32) (v4 : Int32) (vs0 : Int32) (σ : sM) : Option (Int32 × sM) :=
    rthn (f_X5_isHistory v1 σ) (fun vr6 => if vr6 = 0 then
    (b_X5_step_74 v1 v2 v3 v4 (1 : Int32) σ)
  else
    (if vs0 = 0 then
      (b_X5_step_74 v1 v2 v3 v4 (2 : Int32) σ)
    else
      (chk (inb v1 3) (if (σ 58 (v1).toNatClampNeg) = (30 : Int32) then
        (b_X5_step_74 v1 v2 v3 v4 (3 : Int32) σ)
      else
        (b_X5_step_74 v1 v2 v3 v4 (0 : Int32) σ)))))
def f_X5_step (v1 : Int32) (v2 : Int32) (v3 : Int32) (v4 : Int32) (σ : sM) : Option (Int32 × sM) :=
    if v2 = (112 : Int32) then
    (b_X5_step_35 v1 v2 v3 v4 (1 : Int32) σ)
  else
    (if v2 = (114 : Int32) then
      (b_X5_step_35 v1 v2 v3 v4 (1 : Int32) σ)
    else
      (if v2 = (115 : Int32) then
        (b_X5_step_35 v1 v2 v3 v4 (1 : Int32) σ)
      else
        (if v2 = (97 : Int32) then
          (b_X5_step_35 v1 v2 v3 v4 (1 : Int32) σ)
        else
          (if v2 = (120 : Int32) then
            (b_X5_step_35 v1 v2 v3 v4 (1 : Int32) σ)
          else
            (b_X5_step_35 v1 v2 v3 v4 (0 : Int32) σ)))))
def f_X5_thrown (σ : sM) : Option Int32 :=
    some (σ 44 20)
def b_X5_value_26 (v1 : Int32) (v2 : Int32) (vs1 : Int32) (σ : sM) : Option (Int32 × sM) :=
    wthn (f_X5_refused vs1 σ) (fun vr5 σ5 => if vr5 = 0 then
    (rthn (f_X5_placeOf v1 v2 σ5) (fun vr7 => chk (inb (((60 : Int32) * v1) + vr7) 180) (some ((σ5 46 ((((60 : Int32) * v1) + vr7)).toNatClampNeg), σ5))))
  else
    (some ((0 : Int32), σ5)))
def f_X5_value (v1 : Int32) (v2 : Int32) (σ : sM) : Option (Int32 × sM) :=
    rthn (f_X5_isMap v1 σ) (fun vr1 => if vr1 = 0 then
    (b_X5_value_26 v1 v2 (1 : Int32) σ)
  else
    (rthn (f_X5_has v1 v2 σ) (fun vr3 => if vr3 = 0 then
      (b_X5_value_26 v1 v2 (2 : Int32) σ)
    else
      (b_X5_value_26 v1 v2 (0 : Int32) σ))))
def b_X5_viewClear_49 : Nat → Int32 → Int32 → Int32 → Int32 → sM → Option (Int32 × sM)
  | 0, _, _, _, _, _ => none
  | n + 1, v1, v2, v3, v4, σ =>
    if v2 ≤ v4 then
    (some (v2, σ))
  else
    (chk (inb v1 4) (wthn (f_X5_takes (σ 49 (v1).toNatClampNeg) v3 σ) (fun _ σ11 => b_X5_viewClear_49 n v1 v2 v3 (v4 + 1) σ11)))
def b_X5_viewClear_26 (v1 : Int32) (vs1 : Int32) (σ : sM) : Option (Int32 × sM) :=
    wthn (f_X5_refused vs1 σ) (fun vr5 σ5 => if vr5 = 0 then
    (rthn (f_X5_manyOf v1 σ5) (fun vr7 => rthn (f_X5_firstOf v1 σ5) (fun vr8 => b_X5_viewClear_49 FU v1 vr7 vr8 (0 : Int32) σ5)))
  else
    (some ((0 : Int32), σ5)))
def f_X5_viewClear (v1 : Int32) (σ : sM) : Option (Int32 × sM) :=
    rthn (f_X5_isView v1 σ) (fun vr1 => if vr1 = 0 then
    (b_X5_viewClear_26 v1 (1 : Int32) σ)
  else
    (chk (inb v1 4) (if (σ 48 (v1).toNatClampNeg) = 0 then
      (b_X5_viewClear_26 v1 (2 : Int32) σ)
    else
      (b_X5_viewClear_26 v1 (0 : Int32) σ))))
def b_X5_viewEnd_34 (v1 : Int32) (v2 : Int32) (vs1 : Int32) (σ : sM) : Option (Int32 × sM) :=
    wthn (f_X5_refused vs1 σ) (fun vr7 σ7 => if vr7 = 0 then
    (chk (inb v1 4) (if v2 = 0 then
      (rthn (f_X5_firstOf v1 σ7) (fun vr11 => chk (inb (((60 : Int32) * (σ7 49 (v1).toNatClampNeg)) + vr11) 180) (some ((σ7 45 ((((60 : Int32) * (σ7 49 (v1).toNatClampNeg)) + vr11)).toNatClampNeg), σ7))))
    else
      (rthn (f_X5_behindOf v1 σ7) (fun vr13 => chk (inb (((60 : Int32) * (σ7 49 (v1).toNatClampNeg)) + (vr13 - (1 : Int32))) 180) (some ((σ7 45 ((((60 : Int32) * (σ7 49 (v1).toNatClampNeg)) + (vr13 - (1 : Int32)))).toNatClampNeg), σ7))))))
  else
    (some ((0 : Int32), σ7)))
def f_X5_viewEnd (v1 : Int32) (v2 : Int32) (σ : sM) : Option (Int32 × sM) :=
    rthn (f_X5_isView v1 σ) (fun vr1 => if vr1 = 0 then
    (b_X5_viewEnd_34 v1 v2 (1 : Int32) σ)
  else
    (chk (inb v1 4) (if (σ 48 (v1).toNatClampNeg) = 0 then
      (b_X5_viewEnd_34 v1 v2 (2 : Int32) σ)
    else
      (rthn (f_X5_manyOf v1 σ) (fun vr5 => if vr5 = 0 then
        (b_X5_viewEnd_34 v1 v2 (2 : Int32) σ)
      else
        (b_X5_viewEnd_34 v1 v2 (0 : Int32) σ))))))
def f_X5_viewNearAt (v1 : Int32) (v2 : Int32) (v3 : Int32) (σ : sM) : Option Int32 :=
    chk (inb v1 4) (rthn (f_X5_firstOf v1 σ) (fun vr2 => rthn (f_X5_behindOf v1 σ) (fun vr3 => rthn (f_X5_nearAt (σ 49 (v1).toNatClampNeg) vr2 vr3 v2 v3 σ) (fun vr4 => some vr4))))
def b_X5_viewNear_47 (v1 : Int32) (v2 : Int32) (v3 : Int32) (vs1 : Int32) (σ : sM) : Option (Int32 × sM) :=
    wthn (f_X5_refused vs1 σ) (fun vr9 σ9 => if vr9 = 0 then
    (chk (inb v1 4) (rthn (f_X5_viewNearAt v1 v2 v3 σ9) (fun vr12 => chk (inb (((60 : Int32) * (σ9 49 (v1).toNatClampNeg)) + vr12) 180) (some ((σ9 45 ((((60 : Int32) * (σ9 49 (v1).toNatClampNeg)) + vr12)).toNatClampNeg), σ9)))))
  else
    (some ((0 : Int32), σ9)))
def f_X5_viewNear (v1 : Int32) (v2 : Int32) (v3 : Int32) (σ : sM) : Option (Int32 × sM) :=
    rthn (f_X5_isView v1 σ) (fun vr1 => if vr1 = 0 then
    (b_X5_viewNear_47 v1 v2 v3 (1 : Int32) σ)
  else
    (rthn (f_X5_isWay v3 σ) (fun vr3 => if vr3 = 0 then
      (b_X5_viewNear_47 v1 v2 v3 (2 : Int32) σ)
    else
      (chk (inb v1 4) (if (σ 48 (v1).toNatClampNeg) = 0 then
        (b_X5_viewNear_47 v1 v2 v3 (3 : Int32) σ)
      else
        (rthn (f_X5_viewNearAt v1 v2 v3 σ) (fun vr7 => if 0 ≤ vr7 then
          (b_X5_viewNear_47 v1 v2 v3 (0 : Int32) σ)
        else
          (b_X5_viewNear_47 v1 v2 v3 (3 : Int32) σ))))))))
def b_X5_viewPoll_34 (v1 : Int32) (v2 : Int32) (vs1 : Int32) (σ : sM) : Option (Int32 × sM) :=
    wthn (f_X5_refused vs1 σ) (fun vr7 σ7 => if vr7 = 0 then
    (chk (inb v1 4) (if v2 = 0 then
      (rthn (f_X5_firstOf v1 σ7) (fun vr11 => wthn (f_X5_pollsAt (σ7 49 (v1).toNatClampNeg) vr11 σ7) (fun vr12 σ12 => some (vr12, σ12))))
    else
      (rthn (f_X5_behindOf v1 σ7) (fun vr13 => wthn (f_X5_pollsAt (σ7 49 (v1).toNatClampNeg) (vr13 - (1 : Int32)) σ7) (fun vr14 σ14 => some (vr14, σ14))))))
  else
    (some ((0 : Int32), σ7)))
def f_X5_viewPoll (v1 : Int32) (v2 : Int32) (σ : sM) : Option (Int32 × sM) :=
    rthn (f_X5_isView v1 σ) (fun vr1 => if vr1 = 0 then
    (b_X5_viewPoll_34 v1 v2 (1 : Int32) σ)
  else
    (chk (inb v1 4) (if (σ 48 (v1).toNatClampNeg) = 0 then
      (b_X5_viewPoll_34 v1 v2 (2 : Int32) σ)
    else
      (rthn (f_X5_manyOf v1 σ) (fun vr5 => if vr5 = 0 then
        (b_X5_viewPoll_34 v1 v2 (2 : Int32) σ)
      else
        (b_X5_viewPoll_34 v1 v2 (0 : Int32) σ))))))
def b_X5_viewPut_73 (v1 : Int32) (v2 : Int32) (v3 : Int32) (vs1 : Int32) (σ : sM) : Option (Int32 × sM) :=
    wthn (f_X5_refused vs1 σ) (fun vr13 σ13 => if vr13 = 0 then
    (chk (inb v1 4) (wthn (f_X5_puts (σ13 49 (v1).toNatClampNeg) v2 v3 σ13) (fun _ σ16 => rthn (f_X5_manyOf v1 σ16) (fun vr17 => some (vr17, σ16)))))
  else
    (some ((0 : Int32), σ13)))
def f_X5_viewPut (v1 : Int32) (v2 : Int32) (v3 : Int32) (σ : sM) : Option (Int32 × sM) :=
    rthn (f_X5_isView v1 σ) (fun vr1 => if vr1 = 0 then
    (b_X5_viewPut_73 v1 v2 v3 (1 : Int32) σ)
  else
    (chk (inb v1 4) (if (σ 48 (v1).toNatClampNeg) = 0 then
      (b_X5_viewPut_73 v1 v2 v3 (2 : Int32) σ)
    else
      (rthn (f_X5_isIn v1 v2 σ) (fun vr5 => if vr5 = 0 then
        (b_X5_viewPut_73 v1 v2 v3 (3 : Int32) σ)
      else
        (chk (inb v1 4) (chk (inb (σ 49 (v1).toNatClampNeg) 3) (if (σ 47 ((σ 49 (v1).toNatClampNeg)).toNatClampNeg) = (60 : Int32) then
          (chk (inb v1 4) (rthn (f_X5_has (σ 49 (v1).toNatClampNeg) v2 σ) (fun vr11 => if vr11 = 0 then
            (b_X5_viewPut_73 v1 v2 v3 (4 : Int32) σ)
          else
            (b_X5_viewPut_73 v1 v2 v3 (0 : Int32) σ))))
        else
          (b_X5_viewPut_73 v1 v2 v3 (0 : Int32) σ)))))))))
def b_X5_viewRemove_62 (v1 : Int32) (v2 : Int32) (vs0 : Int32) (σ : sM) : Option (Int32 × sM) :=
    if vs0 = 0 then
    (chk (isb vs0) (some (vs0, σ)))
  else
    (chk (inb v1 4) (chk (inb v1 4) (rthn (f_X5_placeOf (σ 49 (v1).toNatClampNeg) v2 σ) (fun vr16 => wthn (f_X5_takes (σ 49 (v1).toNatClampNeg) vr16 σ) (fun _ σ17 => chk (isb vs0) (some (vs0, σ17)))))))
def b_X5_viewRemove_26 (v1 : Int32) (v2 : Int32) (vs1 : Int32) (σ : sM) : Option (Int32 × sM) :=
    wthn (f_X5_refused vs1 σ) (fun vr5 σ5 => if vr5 = 0 then
    (rthn (f_X5_isIn v1 v2 σ5) (fun vr7 => if vr7 = 0 then
      (b_X5_viewRemove_62 v1 v2 (0 : Int32) σ5)
    else
      (chk (inb v1 4) (rthn (f_X5_has (σ5 49 (v1).toNatClampNeg) v2 σ5) (fun vr10 => if vr10 = 0 then
        (b_X5_viewRemove_62 v1 v2 (0 : Int32) σ5)
      else
        (b_X5_viewRemove_62 v1 v2 (1 : Int32) σ5))))))
  else
    (some ((0 : Int32), σ5)))
def f_X5_viewRemove (v1 : Int32) (v2 : Int32) (σ : sM) : Option (Int32 × sM) :=
    rthn (f_X5_isView v1 σ) (fun vr1 => if vr1 = 0 then
    (b_X5_viewRemove_26 v1 v2 (1 : Int32) σ)
  else
    (chk (inb v1 4) (if (σ 48 (v1).toNatClampNeg) = 0 then
      (b_X5_viewRemove_26 v1 v2 (2 : Int32) σ)
    else
      (b_X5_viewRemove_26 v1 v2 (0 : Int32) σ))))
def b_X5_viewSize_13 (v1 : Int32) (vs1 : Int32) (σ : sM) : Option (Int32 × sM) :=
    wthn (f_X5_refused vs1 σ) (fun vr3 σ3 => if vr3 = 0 then
    (chk (inb v1 4) (if (σ3 48 (v1).toNatClampNeg) = 0 then
      (some ((-1 : Int32), σ3))
    else
      (rthn (f_X5_manyOf v1 σ3) (fun vr7 => some (vr7, σ3)))))
  else
    (some ((0 : Int32), σ3)))
def f_X5_viewSize (v1 : Int32) (σ : sM) : Option (Int32 × sM) :=
    rthn (f_X5_isView v1 σ) (fun vr1 => if vr1 = 0 then
    (b_X5_viewSize_13 v1 (1 : Int32) σ)
  else
    (b_X5_viewSize_13 v1 (0 : Int32) σ))
