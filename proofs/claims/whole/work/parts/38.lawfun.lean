def f_L_combine (v1 : Int32) (v2 : Int32) (v3 : Int32) (σ : sM) (X : sX) : Option (Int32 × (sM × sX)) :=
    cthn (f_X4_combine v1 v2 v3 σ) (fun E1 σ1 => if E1 = "java/lang/IndexOutOfBoundsException" then (some ((1 : Int32), σ1, X)) else if E1 = "java/lang/IllegalArgumentException" then (some ((2 : Int32), σ1, X)) else if E1 = "java/lang/IllegalStateException" then (some ((3 : Int32), σ1, X)) else none) (fun vr1 σ1 => some ((0 : Int32), σ1, (vp_updL X.1 ((0 : Int32)).toNatClampNeg (vr1.toInt64), X.2)))
def f_L_cut (v1 : Int32) (v2 : Int32) (v3 : Int32) (v4 : Int32) (v5 : Int32) (σ : sM) (X : sX) : Option (Int32 × (sM × sX)) :=
    cthn (f_X4_cut v1 v2 v3 v4 v5 σ) (fun E1 σ1 => if E1 = "java/lang/IndexOutOfBoundsException" then (some ((1 : Int32), σ1, X)) else if E1 = "java/util/NoSuchElementException" then (some ((2 : Int32), σ1, X)) else if E1 = "java/lang/IllegalArgumentException" then (some ((3 : Int32), σ1, X)) else if E1 = "java/lang/IllegalStateException" then (some ((4 : Int32), σ1, X)) else none) (fun vr1 σ1 => some ((0 : Int32), σ1, (vp_updL X.1 ((0 : Int32)).toNatClampNeg (vr1.toInt64), X.2)))
def f_L_drain (v1 : Int32) (v2 : Int32) (σ : sM) (X : sX) : Option (Int32 × (sM × sX)) :=
    cthn (f_X4_drain v1 v2 σ) (fun E1 σ1 => if E1 = "java/lang/IndexOutOfBoundsException" then (some ((1 : Int32), σ1, X)) else none) (fun vr1 σ1 => some ((0 : Int32), σ1, (vp_updL X.1 ((0 : Int32)).toNatClampNeg (vr1.toInt64), X.2)))
def f_L_drained (v1 : Int32) (σ : sM) (X : sX) : Option (Int32 × (sM × sX)) :=
    cthn (f_X4_drained v1 σ) (fun E1 σ1 => if E1 = "java/lang/IndexOutOfBoundsException" then (some ((1 : Int32), σ1, X)) else none) (fun vr1 σ1 => some ((0 : Int32), σ1, (vp_updL X.1 ((0 : Int32)).toNatClampNeg (vr1.toInt64), X.2)))
def f_L_end (v1 : Int32) (v2 : Int32) (σ : sM) (X : sX) : Option (Int32 × (sM × sX)) :=
    cthn (f_X4_end v1 v2 σ) (fun E1 σ1 => if E1 = "java/lang/IndexOutOfBoundsException" then (some ((1 : Int32), σ1, X)) else if E1 = "java/util/NoSuchElementException" then (some ((2 : Int32), σ1, X)) else none) (fun vr1 σ1 => some ((0 : Int32), σ1, (vp_updL X.1 ((0 : Int32)).toNatClampNeg (vr1.toInt64), X.2)))
def f_L_forget (v1 : Int32) (σ : sM) (X : sX) : Option (Int32 × (sM × sX)) :=
    cthn (f_X4_forget v1 σ) (fun E1 σ1 => if E1 = "java/lang/IndexOutOfBoundsException" then (some ((1 : Int32), σ1, X)) else none) (fun vr1 σ1 => some ((0 : Int32), σ1, (vp_updL X.1 ((0 : Int32)).toNatClampNeg (vr1.toInt64), X.2)))
def f_L_fullShare (v1 : Int32) (σ : sM) (X : sX) : Option (Int32 × (sM × sX)) :=
    cthn (f_X4_fullShare v1 σ) (fun E1 σ1 => if E1 = "java/lang/IndexOutOfBoundsException" then (some ((1 : Int32), σ1, X)) else none) (fun vr1 σ1 => chk (nn64 (FP.f2d vr1)) (some ((0 : Int32), σ1, (X.1, vf_upd X.2 ((0 : Int32)).toNatClampNeg (FP.f2d vr1)))))
def f_L_isLike (v1 : Int32) (v2 : Int32) (σ : sM) (X : sX) : Option (Int32 × (sM × sX)) :=
    cthn (f_X4_isLike v1 v2 σ) (fun E1 σ1 => if E1 = "java/lang/IndexOutOfBoundsException" then (some ((1 : Int32), σ1, X)) else none) (fun vr1 σ1 => if vr1 = 0 then
    (some ((0 : Int32), σ1, (vp_updL X.1 ((0 : Int32)).toNatClampNeg (0 : Int64), X.2)))
  else
    (some ((0 : Int32), σ1, (vp_updL X.1 ((0 : Int32)).toNatClampNeg (1 : Int64), X.2))))
def f_L_keyAt (v1 : Int32) (v2 : Int32) (v3 : Int32) (σ : sM) (X : sX) : Option (Int32 × (sM × sX)) :=
    cthn (f_X4_keyAt v1 v2 v3 σ) (fun E1 σ1 => if E1 = "java/lang/IndexOutOfBoundsException" then (some ((1 : Int32), σ1, X)) else none) (fun vr1 σ1 => some ((0 : Int32), σ1, (vp_updL X.1 ((0 : Int32)).toNatClampNeg (vr1.toInt64), X.2)))
def f_L_lies (v1 : Int32) (v2 : Int32) (σ : sM) (X : sX) : Option (Int32 × (sM × sX)) :=
    cthn (f_X4_lies v1 v2 σ) (fun E1 σ1 => if E1 = "java/lang/IndexOutOfBoundsException" then (some ((1 : Int32), σ1, X)) else if E1 = "java/util/NoSuchElementException" then (some ((2 : Int32), σ1, X)) else none) (fun vr1 σ1 => if vr1 = 0 then
    (some ((0 : Int32), σ1, (vp_updL X.1 ((0 : Int32)).toNatClampNeg (0 : Int64), X.2)))
  else
    (some ((0 : Int32), σ1, (vp_updL X.1 ((0 : Int32)).toNatClampNeg (1 : Int64), X.2))))
def f_L_mark (v1 : Int32) (σ : sM) (X : sX) : Option (Int32 × (sM × sX)) :=
    cthn (f_X4_mark v1 σ) (fun E1 σ1 => if E1 = "java/lang/IndexOutOfBoundsException" then (some ((1 : Int32), σ1, X)) else none) (fun vr1 σ1 => some ((0 : Int32), σ1, (vp_updL X.1 ((0 : Int32)).toNatClampNeg (vr1.toInt64), X.2)))
def f_L_meanKey (v1 : Int32) (σ : sM) (X : sX) : Option (Int32 × (sM × sX)) :=
    cthn (f_X4_meanKey v1 σ) (fun E1 σ1 => if E1 = "java/lang/IndexOutOfBoundsException" then (some ((1 : Int32), σ1, X)) else if E1 = "java/lang/ArithmeticException" then (some ((2 : Int32), σ1, X)) else none) (fun vr1 σ1 => some ((0 : Int32), σ1, (X.1, vf_upd X.2 ((0 : Int32)).toNatClampNeg vr1)))
def f_L_meet (v1 : Int32) (v2 : Int32) (σ : sM) (X : sX) : Option (Int32 × (sM × sX)) :=
    cthn (f_X4_meet v1 v2 σ) (fun E1 σ1 => if E1 = "java/lang/IndexOutOfBoundsException" then (some ((1 : Int32), σ1, X)) else none) (fun vr1 σ1 => some ((0 : Int32), σ1, (vp_updL X.1 ((0 : Int32)).toNatClampNeg (vr1.toInt64), X.2)))
def f_L_near (v1 : Int32) (v2 : Int32) (v3 : Int32) (σ : sM) (X : sX) : Option (Int32 × (sM × sX)) :=
    cthn (f_X4_near v1 v2 v3 σ) (fun E1 σ1 => if E1 = "java/lang/IndexOutOfBoundsException" then (some ((1 : Int32), σ1, X)) else if E1 = "java/lang/IllegalArgumentException" then (some ((2 : Int32), σ1, X)) else if E1 = "java/util/NoSuchElementException" then (some ((3 : Int32), σ1, X)) else none) (fun vr1 σ1 => some ((0 : Int32), σ1, (vp_updL X.1 ((0 : Int32)).toNatClampNeg (vr1.toInt64), X.2)))
def f_L_open (v1 : Int32) (v2 : Int32) (v3 : Int32) (v4 : Int32) (v5 : Int32) (v6 : Int32) (σ : sM) (X : sX) : Option (Int32 × (sM × sX)) :=
    cthn (f_X4_open v1 v2 v3 v4 v5 v6 σ) (fun E1 σ1 => if E1 = "java/lang/IndexOutOfBoundsException" then (some ((1 : Int32), σ1, X)) else if E1 = "java/lang/IllegalArgumentException" then (some ((2 : Int32), σ1, X)) else none) (fun vr1 σ1 => some ((0 : Int32), σ1, (vp_updL X.1 ((0 : Int32)).toNatClampNeg (vr1.toInt64), X.2)))
def f_L_opposite (v1 : Int32) (v2 : Int32) (v3 : Int32) (σ : sM) (X : sX) : Option (Int32 × (sM × sX)) :=
    cthn (f_X4_opposite v1 v2 v3 σ) (fun E1 σ1 => if E1 = "java/lang/IndexOutOfBoundsException" then (some ((1 : Int32), σ1, X)) else none) (fun vr1 σ1 => some ((0 : Int32), σ1, (vp_updL X.1 ((0 : Int32)).toNatClampNeg (vr1.toInt64), X.2)))
def f_L_play (v1 : Int32) (v2 : Int32) (σ : sM) (X : sX) : Option (Int32 × (sM × sX)) :=
    cthn (f_X4_play v1 v2 σ) (fun E1 σ1 => if E1 = "java/lang/IndexOutOfBoundsException" then (some ((1 : Int32), σ1, X)) else if E1 = "java/lang/IllegalStateException" then (some ((2 : Int32), σ1, X)) else none) (fun vr1 σ1 => some ((0 : Int32), σ1, (vp_updL X.1 ((0 : Int32)).toNatClampNeg (vr1.toInt64), X.2)))
def f_L_playBoth (v1 : Int32) (v2 : Int32) (v3 : Int32) (v4 : Int32) (σ : sM) (X : sX) : Option (Int32 × (sM × sX)) :=
    cthn (f_X4_playBoth v1 v2 v3 v4 σ) (fun E1 σ1 => if E1 = "java/lang/IndexOutOfBoundsException" then (some ((1 : Int32), σ1, X)) else if E1 = "java/lang/IllegalStateException" then (some ((2 : Int32), σ1, X)) else none) (fun vr1 σ1 => some ((0 : Int32), σ1, (vp_updL X.1 ((0 : Int32)).toNatClampNeg (vr1.toInt64), X.2)))
def f_L_poll (v1 : Int32) (v2 : Int32) (σ : sM) (X : sX) : Option (Int32 × (sM × sX)) :=
    cthn (f_X4_poll v1 v2 σ) (fun E1 σ1 => if E1 = "java/lang/IndexOutOfBoundsException" then (some ((1 : Int32), σ1, X)) else if E1 = "java/util/NoSuchElementException" then (some ((2 : Int32), σ1, X)) else none) (fun vr1 σ1 => some ((0 : Int32), σ1, (vp_updL X.1 ((0 : Int32)).toNatClampNeg (vr1.toInt64), X.2)))
def f_L_polled (σ : sM) (X : sX) : Option (Int32 × (sM × sX)) :=
    cthn (f_X4_polled σ) (fun E1 σ1 => if E1 = "java/util/NoSuchElementException" then (some ((1 : Int32), σ1, X)) else none) (fun vr1 σ1 => some ((0 : Int32), σ1, (vp_updL X.1 ((0 : Int32)).toNatClampNeg (vr1.toInt64), X.2)))
def f_L_put (v1 : Int32) (v2 : Int32) (v3 : Int32) (σ : sM) (X : sX) : Option (Int32 × (sM × sX)) :=
    cthn (f_X4_put v1 v2 v3 σ) (fun E1 σ1 => if E1 = "java/lang/IndexOutOfBoundsException" then (some ((1 : Int32), σ1, X)) else if E1 = "java/lang/IllegalStateException" then (some ((2 : Int32), σ1, X)) else none) (fun vr1 σ1 => some ((0 : Int32), σ1, (vp_updL X.1 ((0 : Int32)).toNatClampNeg (vr1.toInt64), X.2)))
def f_L_remove (v1 : Int32) (v2 : Int32) (σ : sM) (X : sX) : Option (Int32 × (sM × sX)) :=
    cthn (f_X4_remove v1 v2 σ) (fun E1 σ1 => if E1 = "java/lang/IndexOutOfBoundsException" then (some ((1 : Int32), σ1, X)) else none) (fun vr1 σ1 => some ((0 : Int32), σ1, (vp_updL X.1 ((0 : Int32)).toNatClampNeg (vr1.toInt64), X.2)))
def f_L_size (v1 : Int32) (σ : sM) (X : sX) : Option (Int32 × (sM × sX)) :=
    cthn (f_X4_size v1 σ) (fun E1 σ1 => if E1 = "java/lang/IndexOutOfBoundsException" then (some ((1 : Int32), σ1, X)) else none) (fun vr1 σ1 => some ((0 : Int32), σ1, (vp_updL X.1 ((0 : Int32)).toNatClampNeg (vr1.toInt64), X.2)))
def f_L_step (v1 : Int32) (v2 : Int32) (v3 : Int32) (v4 : Int32) (σ : sM) (X : sX) : Option (Int32 × (sM × sX)) :=
    cthn (f_X4_step v1 v2 v3 v4 σ) (fun E1 σ1 => if E1 = "java/lang/IndexOutOfBoundsException" then (some ((1 : Int32), σ1, X)) else if E1 = "java/lang/IllegalArgumentException" then (some ((2 : Int32), σ1, X)) else if E1 = "java/lang/IllegalStateException" then (some ((3 : Int32), σ1, X)) else none) (fun vr1 σ1 => some ((0 : Int32), σ1, (vp_updL X.1 ((0 : Int32)).toNatClampNeg (vr1.toInt64), X.2)))
def f_L_value (v1 : Int32) (v2 : Int32) (σ : sM) (X : sX) : Option (Int32 × (sM × sX)) :=
    cthn (f_X4_value v1 v2 σ) (fun E1 σ1 => if E1 = "java/lang/IndexOutOfBoundsException" then (some ((1 : Int32), σ1, X)) else if E1 = "java/util/NoSuchElementException" then (some ((2 : Int32), σ1, X)) else none) (fun vr1 σ1 => some ((0 : Int32), σ1, (vp_updL X.1 ((0 : Int32)).toNatClampNeg (vr1.toInt64), X.2)))
def f_L_viewClear (v1 : Int32) (σ : sM) (X : sX) : Option (Int32 × (sM × sX)) :=
    cthn (f_X4_viewClear v1 σ) (fun E1 σ1 => if E1 = "java/lang/IndexOutOfBoundsException" then (some ((1 : Int32), σ1, X)) else if E1 = "java/util/NoSuchElementException" then (some ((2 : Int32), σ1, X)) else none) (fun vr1 σ1 => some ((0 : Int32), σ1, (vp_updL X.1 ((0 : Int32)).toNatClampNeg (vr1.toInt64), X.2)))
def f_L_viewEnd (v1 : Int32) (v2 : Int32) (σ : sM) (X : sX) : Option (Int32 × (sM × sX)) :=
    cthn (f_X4_viewEnd v1 v2 σ) (fun E1 σ1 => if E1 = "java/lang/IndexOutOfBoundsException" then (some ((1 : Int32), σ1, X)) else if E1 = "java/util/NoSuchElementException" then (some ((2 : Int32), σ1, X)) else none) (fun vr1 σ1 => some ((0 : Int32), σ1, (vp_updL X.1 ((0 : Int32)).toNatClampNeg (vr1.toInt64), X.2)))
def f_L_viewNear (v1 : Int32) (v2 : Int32) (v3 : Int32) (σ : sM) (X : sX) : Option (Int32 × (sM × sX)) :=
    cthn (f_X4_viewNear v1 v2 v3 σ) (fun E1 σ1 => if E1 = "java/lang/IndexOutOfBoundsException" then (some ((1 : Int32), σ1, X)) else if E1 = "java/lang/IllegalArgumentException" then (some ((2 : Int32), σ1, X)) else if E1 = "java/util/NoSuchElementException" then (some ((3 : Int32), σ1, X)) else none) (fun vr1 σ1 => some ((0 : Int32), σ1, (vp_updL X.1 ((0 : Int32)).toNatClampNeg (vr1.toInt64), X.2)))
def f_L_viewPoll (v1 : Int32) (v2 : Int32) (σ : sM) (X : sX) : Option (Int32 × (sM × sX)) :=
    cthn (f_X4_viewPoll v1 v2 σ) (fun E1 σ1 => if E1 = "java/lang/IndexOutOfBoundsException" then (some ((1 : Int32), σ1, X)) else if E1 = "java/util/NoSuchElementException" then (some ((2 : Int32), σ1, X)) else none) (fun vr1 σ1 => some ((0 : Int32), σ1, (vp_updL X.1 ((0 : Int32)).toNatClampNeg (vr1.toInt64), X.2)))
def f_L_viewPut (v1 : Int32) (v2 : Int32) (v3 : Int32) (σ : sM) (X : sX) : Option (Int32 × (sM × sX)) :=
    cthn (f_X4_viewPut v1 v2 v3 σ) (fun E1 σ1 => if E1 = "java/lang/IndexOutOfBoundsException" then (some ((1 : Int32), σ1, X)) else if E1 = "java/util/NoSuchElementException" then (some ((2 : Int32), σ1, X)) else if E1 = "java/lang/IllegalArgumentException" then (some ((3 : Int32), σ1, X)) else if E1 = "java/lang/IllegalStateException" then (some ((4 : Int32), σ1, X)) else none) (fun vr1 σ1 => some ((0 : Int32), σ1, (vp_updL X.1 ((0 : Int32)).toNatClampNeg (vr1.toInt64), X.2)))
def f_L_viewRemove (v1 : Int32) (v2 : Int32) (σ : sM) (X : sX) : Option (Int32 × (sM × sX)) :=
    cthn (f_X4_viewRemove v1 v2 σ) (fun E1 σ1 => if E1 = "java/lang/IndexOutOfBoundsException" then (some ((1 : Int32), σ1, X)) else if E1 = "java/util/NoSuchElementException" then (some ((2 : Int32), σ1, X)) else none) (fun vr1 σ1 => if vr1 = 0 then
    (some ((0 : Int32), σ1, (vp_updL X.1 ((0 : Int32)).toNatClampNeg (0 : Int64), X.2)))
  else
    (some ((0 : Int32), σ1, (vp_updL X.1 ((0 : Int32)).toNatClampNeg (1 : Int64), X.2))))
def f_L_viewSize (v1 : Int32) (σ : sM) (X : sX) : Option (Int32 × (sM × sX)) :=
    cthn (f_X4_viewSize v1 σ) (fun E1 σ1 => if E1 = "java/lang/IndexOutOfBoundsException" then (some ((1 : Int32), σ1, X)) else none) (fun vr1 σ1 => some ((0 : Int32), σ1, (vp_updL X.1 ((0 : Int32)).toNatClampNeg (vr1.toInt64), X.2)))
def b_L_law_1243 (L : Nat) (xs : Nat → Int32) (K28 : Int32 → sM → sX → Option Int32) (v5 : Int32) (v6 : Int32) (vs1 : Int32) (vs2 : Int32) (vs3 : Int32) (vs4 : Int32) (vs5 : Int32) (vs6 : Int32) (σ : sM) (X : sX) : Option Int32 :=
    wthn (f_X5_open vs1 vs2 vs3 vs4 vs5 vs6 σ) (fun vr367 σ367 => rthn (f_X5_thrown σ367) (fun vr368 => if vr368 = v6 then
    (if v6 = 0 then
      (if (lg_cmp (X.1 ((0 : Int32)).toNatClampNeg) (vr367.toInt64)) = 0 then
        (K28 (v5 + 7) σ367 X)
      else
        (some (0 : Int32)))
    else
      (K28 (v5 + 7) σ367 X))
  else
    (some (0 : Int32))))
def b_L_law_1222 (L : Nat) (xs : Nat → Int32) (K28 : Int32 → sM → sX → Option Int32) (v5 : Int32) (v6 : Int32) (vs1 : Int32) (vs2 : Int32) (vs3 : Int32) (vs4 : Int32) (σ : sM) (X : sX) : Option Int32 :=
    chk (inb (v5 + (5 : Int32)) L) (chk (inb (v5 + (6 : Int32)) L) (if (xs ((v5 + (6 : Int32))).toNatClampNeg) = 0 then
    (b_L_law_1243 L xs K28 v5 v6 vs1 vs2 vs3 vs4 (xs ((v5 + (5 : Int32))).toNatClampNeg) (0 : Int32) σ X)
  else
    (b_L_law_1243 L xs K28 v5 v6 vs1 vs2 vs3 vs4 (xs ((v5 + (5 : Int32))).toNatClampNeg) (1 : Int32) σ X)))
def b_L_law_1183 (L : Nat) (xs : Nat → Int32) (K28 : Int32 → sM → sX → Option Int32) (v5 : Int32) (vs1 : Int32) (vs2 : Int32) (vs3 : Int32) (vs4 : Int32) (vs5 : Int32) (vs6 : Int32) (σ : sM) (X : sX) : Option Int32 :=
    lthn (f_L_open vs1 vs2 vs3 vs4 vs5 vs6 σ X) (fun vr340 σ340 X340 => chk (inb (v5 + (1 : Int32)) L) (chk (inb (v5 + (2 : Int32)) L) (chk (inb (v5 + (3 : Int32)) L) (chk (inb (v5 + (4 : Int32)) L) (if (xs ((v5 + (4 : Int32))).toNatClampNeg) = 0 then
    (b_L_law_1222 L xs K28 v5 vr340 (xs ((v5 + (1 : Int32))).toNatClampNeg) (xs ((v5 + (2 : Int32))).toNatClampNeg) (xs ((v5 + (3 : Int32))).toNatClampNeg) (0 : Int32) σ340 X340)
  else
    (b_L_law_1222 L xs K28 v5 vr340 (xs ((v5 + (1 : Int32))).toNatClampNeg) (xs ((v5 + (2 : Int32))).toNatClampNeg) (xs ((v5 + (3 : Int32))).toNatClampNeg) (1 : Int32) σ340 X340))))))
def b_L_law_1162 (L : Nat) (xs : Nat → Int32) (K28 : Int32 → sM → sX → Option Int32) (v5 : Int32) (vs1 : Int32) (vs2 : Int32) (vs3 : Int32) (vs4 : Int32) (σ : sM) (X : sX) : Option Int32 :=
    chk (inb (v5 + (5 : Int32)) L) (chk (inb (v5 + (6 : Int32)) L) (if (xs ((v5 + (6 : Int32))).toNatClampNeg) = 0 then
    (b_L_law_1183 L xs K28 v5 vs1 vs2 vs3 vs4 (xs ((v5 + (5 : Int32))).toNatClampNeg) (0 : Int32) σ X)
  else
    (b_L_law_1183 L xs K28 v5 vs1 vs2 vs3 vs4 (xs ((v5 + (5 : Int32))).toNatClampNeg) (1 : Int32) σ X)))
def b_L_law_1379 (L : Nat) (xs : Nat → Int32) (K28 : Int32 → sM → sX → Option Int32) (v5 : Int32) (v6 : Int32) (vs1 : Int32) (vs2 : Int32) (vs3 : Int32) (vs4 : Int32) (vs5 : Int32) (σ : sM) (X : sX) : Option Int32 :=
    wthn (f_X5_cut vs1 vs2 vs3 vs4 vs5 σ) (fun vr372 σ372 => rthn (f_X5_thrown σ372) (fun vr373 => if vr373 = v6 then
    (if v6 = 0 then
      (if (lg_cmp (X.1 ((0 : Int32)).toNatClampNeg) (vr372.toInt64)) = 0 then
        (K28 (v5 + 7) σ372 X)
      else
        (some (0 : Int32)))
    else
      (K28 (v5 + 7) σ372 X))
  else
    (some (0 : Int32))))
def b_L_law_1359 (L : Nat) (xs : Nat → Int32) (K28 : Int32 → sM → sX → Option Int32) (v5 : Int32) (v6 : Int32) (vs1 : Int32) (vs2 : Int32) (vs3 : Int32) (σ : sM) (X : sX) : Option Int32 :=
    chk (inb (v5 + (4 : Int32)) L) (chk (inb (v5 + (5 : Int32)) L) (if (xs ((v5 + (5 : Int32))).toNatClampNeg) = 0 then
    (b_L_law_1379 L xs K28 v5 v6 vs1 vs2 vs3 (xs ((v5 + (4 : Int32))).toNatClampNeg) (0 : Int32) σ X)
  else
    (b_L_law_1379 L xs K28 v5 v6 vs1 vs2 vs3 (xs ((v5 + (4 : Int32))).toNatClampNeg) (1 : Int32) σ X)))
def b_L_law_1326 (L : Nat) (xs : Nat → Int32) (K28 : Int32 → sM → sX → Option Int32) (v5 : Int32) (vs1 : Int32) (vs2 : Int32) (vs3 : Int32) (vs4 : Int32) (vs5 : Int32) (σ : sM) (X : sX) : Option Int32 :=
    lthn (f_L_cut vs1 vs2 vs3 vs4 vs5 σ X) (fun vr346 σ346 X346 => chk (inb (v5 + (1 : Int32)) L) (chk (inb (v5 + (2 : Int32)) L) (chk (inb (v5 + (3 : Int32)) L) (if (xs ((v5 + (3 : Int32))).toNatClampNeg) = 0 then
    (b_L_law_1359 L xs K28 v5 vr346 (xs ((v5 + (1 : Int32))).toNatClampNeg) (xs ((v5 + (2 : Int32))).toNatClampNeg) (0 : Int32) σ346 X346)
  else
    (b_L_law_1359 L xs K28 v5 vr346 (xs ((v5 + (1 : Int32))).toNatClampNeg) (xs ((v5 + (2 : Int32))).toNatClampNeg) (1 : Int32) σ346 X346)))))
def b_L_law_1306 (L : Nat) (xs : Nat → Int32) (K28 : Int32 → sM → sX → Option Int32) (v5 : Int32) (vs1 : Int32) (vs2 : Int32) (vs3 : Int32) (σ : sM) (X : sX) : Option Int32 :=
    chk (inb (v5 + (4 : Int32)) L) (chk (inb (v5 + (5 : Int32)) L) (if (xs ((v5 + (5 : Int32))).toNatClampNeg) = 0 then
    (b_L_law_1326 L xs K28 v5 vs1 vs2 vs3 (xs ((v5 + (4 : Int32))).toNatClampNeg) (0 : Int32) σ X)
  else
    (b_L_law_1326 L xs K28 v5 vs1 vs2 vs3 (xs ((v5 + (4 : Int32))).toNatClampNeg) (1 : Int32) σ X)))
def b_L_law_1700 (L : Nat) (xs : Nat → Int32) (K28 : Int32 → sM → sX → Option Int32) (v5 : Int32) (v6 : Int32) (vs1 : Int32) (vs2 : Int32) (σ : sM) (X : sX) : Option Int32 :=
    wthn (f_X5_viewEnd vs1 vs2 σ) (fun vr351 σ351 => rthn (f_X5_thrown σ351) (fun vr352 => if vr352 = v6 then
    (if v6 = 0 then
      (if (lg_cmp (X.1 ((0 : Int32)).toNatClampNeg) (vr351.toInt64)) = 0 then
        (K28 (v5 + 7) σ351 X)
      else
        (some (0 : Int32)))
    else
      (K28 (v5 + 7) σ351 X))
  else
    (some (0 : Int32))))
def b_L_law_1673 (L : Nat) (xs : Nat → Int32) (K28 : Int32 → sM → sX → Option Int32) (v5 : Int32) (vs1 : Int32) (vs2 : Int32) (σ : sM) (X : sX) : Option Int32 :=
    lthn (f_L_viewEnd vs1 vs2 σ X) (fun vr312 σ312 X312 => chk (inb (v5 + (1 : Int32)) L) (chk (inb (v5 + (2 : Int32)) L) (if (xs ((v5 + (2 : Int32))).toNatClampNeg) = 0 then
    (b_L_law_1700 L xs K28 v5 vr312 (xs ((v5 + (1 : Int32))).toNatClampNeg) (0 : Int32) σ312 X312)
  else
    (b_L_law_1700 L xs K28 v5 vr312 (xs ((v5 + (1 : Int32))).toNatClampNeg) (1 : Int32) σ312 X312))))
def b_L_law_1784 (L : Nat) (xs : Nat → Int32) (K28 : Int32 → sM → sX → Option Int32) (v5 : Int32) (v6 : Int32) (vs1 : Int32) (vs2 : Int32) (σ : sM) (X : sX) : Option Int32 :=
    wthn (f_X5_viewPoll vs1 vs2 σ) (fun vr356 σ356 => rthn (f_X5_thrown σ356) (fun vr357 => if vr357 = v6 then
    (if v6 = 0 then
      (if (lg_cmp (X.1 ((0 : Int32)).toNatClampNeg) (vr356.toInt64)) = 0 then
        (K28 (v5 + 7) σ356 X)
      else
        (some (0 : Int32)))
    else
      (K28 (v5 + 7) σ356 X))
  else
    (some (0 : Int32))))
def b_L_law_1757 (L : Nat) (xs : Nat → Int32) (K28 : Int32 → sM → sX → Option Int32) (v5 : Int32) (vs1 : Int32) (vs2 : Int32) (σ : sM) (X : sX) : Option Int32 :=
    lthn (f_L_viewPoll vs1 vs2 σ X) (fun vr316 σ316 X316 => chk (inb (v5 + (1 : Int32)) L) (chk (inb (v5 + (2 : Int32)) L) (if (xs ((v5 + (2 : Int32))).toNatClampNeg) = 0 then
    (b_L_law_1784 L xs K28 v5 vr316 (xs ((v5 + (1 : Int32))).toNatClampNeg) (0 : Int32) σ316 X316)
  else
    (b_L_law_1784 L xs K28 v5 vr316 (xs ((v5 + (1 : Int32))).toNatClampNeg) (1 : Int32) σ316 X316))))
def b_L_law_542 (L : Nat) (xs : Nat → Int32) (K28 : Int32 → sM → sX → Option Int32) (v5 : Int32) (v6 : Int32) (vs1 : Int32) (vs2 : Int32) (σ : sM) (X : sX) : Option Int32 :=
    wthn (f_X5_end vs1 vs2 σ) (fun vr320 σ320 => rthn (f_X5_thrown σ320) (fun vr321 => if vr321 = v6 then
    (if v6 = 0 then
      (if (lg_cmp (X.1 ((0 : Int32)).toNatClampNeg) (vr320.toInt64)) = 0 then
        (K28 (v5 + 7) σ320 X)
      else
        (some (0 : Int32)))
    else
      (K28 (v5 + 7) σ320 X))
  else
    (some (0 : Int32))))
def b_L_law_515 (L : Nat) (xs : Nat → Int32) (K28 : Int32 → sM → sX → Option Int32) (v5 : Int32) (vs1 : Int32) (vs2 : Int32) (σ : sM) (X : sX) : Option Int32 :=
    lthn (f_L_end vs1 vs2 σ X) (fun vr289 σ289 X289 => chk (inb (v5 + (1 : Int32)) L) (chk (inb (v5 + (2 : Int32)) L) (if (xs ((v5 + (2 : Int32))).toNatClampNeg) = 0 then
    (b_L_law_542 L xs K28 v5 vr289 (xs ((v5 + (1 : Int32))).toNatClampNeg) (0 : Int32) σ289 X289)
  else
    (b_L_law_542 L xs K28 v5 vr289 (xs ((v5 + (1 : Int32))).toNatClampNeg) (1 : Int32) σ289 X289))))
def b_L_law_626 (L : Nat) (xs : Nat → Int32) (K28 : Int32 → sM → sX → Option Int32) (v5 : Int32) (v6 : Int32) (vs1 : Int32) (vs2 : Int32) (σ : sM) (X : sX) : Option Int32 :=
    wthn (f_X5_poll vs1 vs2 σ) (fun vr325 σ325 => rthn (f_X5_thrown σ325) (fun vr326 => if vr326 = v6 then
    (if v6 = 0 then
      (if (lg_cmp (X.1 ((0 : Int32)).toNatClampNeg) (vr325.toInt64)) = 0 then
        (K28 (v5 + 7) σ325 X)
      else
        (some (0 : Int32)))
    else
      (K28 (v5 + 7) σ325 X))
  else
    (some (0 : Int32))))
def b_L_law_599 (L : Nat) (xs : Nat → Int32) (K28 : Int32 → sM → sX → Option Int32) (v5 : Int32) (vs1 : Int32) (vs2 : Int32) (σ : sM) (X : sX) : Option Int32 :=
    lthn (f_L_poll vs1 vs2 σ X) (fun vr293 σ293 X293 => chk (inb (v5 + (1 : Int32)) L) (chk (inb (v5 + (2 : Int32)) L) (if (xs ((v5 + (2 : Int32))).toNatClampNeg) = 0 then
    (b_L_law_626 L xs K28 v5 vr293 (xs ((v5 + (1 : Int32))).toNatClampNeg) (0 : Int32) σ293 X293)
  else
    (b_L_law_626 L xs K28 v5 vr293 (xs ((v5 + (1 : Int32))).toNatClampNeg) (1 : Int32) σ293 X293))))
def b_L_law_754 (L : Nat) (xs : Nat → Int32) (K28 : Int32 → sM → sX → Option Int32) (v5 : Int32) (v6 : Int32) (vs1 : Int32) (vs2 : Int32) (σ : sM) (X : sX) : Option Int32 :=
    wthn (f_X5_drain vs1 vs2 σ) (fun vr330 σ330 => rthn (f_X5_thrown σ330) (fun vr331 => if vr331 = v6 then
    (if v6 = 0 then
      (if (lg_cmp (X.1 ((0 : Int32)).toNatClampNeg) (vr330.toInt64)) = 0 then
        (K28 (v5 + 7) σ330 X)
      else
        (some (0 : Int32)))
    else
      (K28 (v5 + 7) σ330 X))
  else
    (some (0 : Int32))))
def b_L_law_727 (L : Nat) (xs : Nat → Int32) (K28 : Int32 → sM → sX → Option Int32) (v5 : Int32) (vs1 : Int32) (vs2 : Int32) (σ : sM) (X : sX) : Option Int32 :=
    lthn (f_L_drain vs1 vs2 σ X) (fun vr297 σ297 X297 => chk (inb (v5 + (1 : Int32)) L) (chk (inb (v5 + (2 : Int32)) L) (if (xs ((v5 + (2 : Int32))).toNatClampNeg) = 0 then
    (b_L_law_754 L xs K28 v5 vr297 (xs ((v5 + (1 : Int32))).toNatClampNeg) (0 : Int32) σ297 X297)
  else
    (b_L_law_754 L xs K28 v5 vr297 (xs ((v5 + (1 : Int32))).toNatClampNeg) (1 : Int32) σ297 X297))))
def b_L_law_962 (L : Nat) (xs : Nat → Int32) (K28 : Int32 → sM → sX → Option Int32) (v5 : Int32) (v6 : Int32) (vs1 : Int32) (vs2 : Int32) (vs3 : Int32) (σ : sM) (X : sX) : Option Int32 :=
    wthn (f_X5_keyAt vs1 vs2 vs3 σ) (fun vr335 σ335 => rthn (f_X5_thrown σ335) (fun vr336 => if vr336 = v6 then
    (if v6 = 0 then
      (if (lg_cmp (X.1 ((0 : Int32)).toNatClampNeg) (vr335.toInt64)) = 0 then
        (K28 (v5 + 7) σ335 X)
      else
        (some (0 : Int32)))
    else
      (K28 (v5 + 7) σ335 X))
  else
    (some (0 : Int32))))
def b_L_law_929 (L : Nat) (xs : Nat → Int32) (K28 : Int32 → sM → sX → Option Int32) (v5 : Int32) (vs1 : Int32) (vs2 : Int32) (vs3 : Int32) (σ : sM) (X : sX) : Option Int32 :=
    lthn (f_L_keyAt vs1 vs2 vs3 σ X) (fun vr301 σ301 X301 => chk (inb (v5 + (1 : Int32)) L) (chk (inb (v5 + (2 : Int32)) L) (chk (inb (v5 + (3 : Int32)) L) (if (xs ((v5 + (3 : Int32))).toNatClampNeg) = 0 then
    (b_L_law_962 L xs K28 v5 vr301 (xs ((v5 + (1 : Int32))).toNatClampNeg) (xs ((v5 + (2 : Int32))).toNatClampNeg) (0 : Int32) σ301 X301)
  else
    (b_L_law_962 L xs K28 v5 vr301 (xs ((v5 + (1 : Int32))).toNatClampNeg) (xs ((v5 + (2 : Int32))).toNatClampNeg) (1 : Int32) σ301 X301)))))
def b_L_law_28 (L : Nat) (xs : Nat → Int32) : Nat → Int32 → sM → sX → Option Int32
  | 0, _, _, _ => none
  | n + 1, v5, σ, X =>
    if ((Int32.ofNat L) - (7 : Int32)) < v5 then
    (some (1 : Int32))
  else
    (chk (inb v5 L) (rthn (some ((xs (v5).toNatClampNeg) &&& (63 : Int32))) (fun vx3 => if vx3 = (0 : Int32) then
      (chk (inb (v5 + (1 : Int32)) L) (chk (inb (v5 + (2 : Int32)) L) (chk (inb (v5 + (3 : Int32)) L) (lthn (f_L_put (xs ((v5 + (1 : Int32))).toNatClampNeg) (xs ((v5 + (2 : Int32))).toNatClampNeg) (xs ((v5 + (3 : Int32))).toNatClampNeg) σ X) (fun vr7 σ7 X7 => chk (inb (v5 + (1 : Int32)) L) (chk (inb (v5 + (2 : Int32)) L) (chk (inb (v5 + (3 : Int32)) L) (wthn (f_X5_put (xs ((v5 + (1 : Int32))).toNatClampNeg) (xs ((v5 + (2 : Int32))).toNatClampNeg) (xs ((v5 + (3 : Int32))).toNatClampNeg) σ7) (fun vr11 σ11 => rthn (f_X5_thrown σ11) (fun vr12 => if vr12 = vr7 then
        (if vr7 = 0 then
          (if (lg_cmp (X7.1 ((0 : Int32)).toNatClampNeg) (vr11.toInt64)) = 0 then
            (b_L_law_28 L xs n (v5 + 7) σ11 X7)
          else
            (some (0 : Int32)))
        else
          (b_L_law_28 L xs n (v5 + 7) σ11 X7))
      else
        (some (0 : Int32))))))))))))
    else if vx3 = (1 : Int32) then
      (chk (inb (v5 + (1 : Int32)) L) (chk (inb (v5 + (2 : Int32)) L) (lthn (f_L_value (xs ((v5 + (1 : Int32))).toNatClampNeg) (xs ((v5 + (2 : Int32))).toNatClampNeg) σ X) (fun vr18 σ18 X18 => chk (inb (v5 + (1 : Int32)) L) (chk (inb (v5 + (2 : Int32)) L) (wthn (f_X5_value (xs ((v5 + (1 : Int32))).toNatClampNeg) (xs ((v5 + (2 : Int32))).toNatClampNeg) σ18) (fun vr21 σ21 => rthn (f_X5_thrown σ21) (fun vr22 => if vr22 = vr18 then
        (if vr18 = 0 then
          (if (lg_cmp (X18.1 ((0 : Int32)).toNatClampNeg) (vr21.toInt64)) = 0 then
            (b_L_law_28 L xs n (v5 + 7) σ21 X18)
          else
            (some (0 : Int32)))
        else
          (b_L_law_28 L xs n (v5 + 7) σ21 X18))
      else
        (some (0 : Int32))))))))))
    else if vx3 = (2 : Int32) then
      (chk (inb (v5 + (1 : Int32)) L) (chk (inb (v5 + (2 : Int32)) L) (lthn (f_L_remove (xs ((v5 + (1 : Int32))).toNatClampNeg) (xs ((v5 + (2 : Int32))).toNatClampNeg) σ X) (fun vr28 σ28 X28 => chk (inb (v5 + (1 : Int32)) L) (chk (inb (v5 + (2 : Int32)) L) (wthn (f_X5_remove (xs ((v5 + (1 : Int32))).toNatClampNeg) (xs ((v5 + (2 : Int32))).toNatClampNeg) σ28) (fun vr31 σ31 => rthn (f_X5_thrown σ31) (fun vr32 => if vr32 = vr28 then
        (if vr28 = 0 then
          (if (lg_cmp (X28.1 ((0 : Int32)).toNatClampNeg) (vr31.toInt64)) = 0 then
            (b_L_law_28 L xs n (v5 + 7) σ31 X28)
          else
            (some (0 : Int32)))
        else
          (b_L_law_28 L xs n (v5 + 7) σ31 X28))
      else
        (some (0 : Int32))))))))))
    else if vx3 = (3 : Int32) then
      (chk (inb (v5 + (1 : Int32)) L) (chk (inb (v5 + (2 : Int32)) L) (chk (inb (v5 + (3 : Int32)) L) (lthn (f_L_near (xs ((v5 + (1 : Int32))).toNatClampNeg) (xs ((v5 + (2 : Int32))).toNatClampNeg) (((xs ((v5 + (3 : Int32))).toNatClampNeg).toUInt32 % 65536).toInt32) σ X) (fun vr39 σ39 X39 => chk (inb (v5 + (1 : Int32)) L) (chk (inb (v5 + (2 : Int32)) L) (chk (inb (v5 + (3 : Int32)) L) (wthn (f_X5_near (xs ((v5 + (1 : Int32))).toNatClampNeg) (xs ((v5 + (2 : Int32))).toNatClampNeg) (((xs ((v5 + (3 : Int32))).toNatClampNeg).toUInt32 % 65536).toInt32) σ39) (fun vr43 σ43 => rthn (f_X5_thrown σ43) (fun vr44 => if vr44 = vr39 then
        (if vr39 = 0 then
          (if (lg_cmp (X39.1 ((0 : Int32)).toNatClampNeg) (vr43.toInt64)) = 0 then
            (b_L_law_28 L xs n (v5 + 7) σ43 X39)
          else
            (some (0 : Int32)))
        else
          (b_L_law_28 L xs n (v5 + 7) σ43 X39))
      else
        (some (0 : Int32))))))))))))
    else if vx3 = (4 : Int32) then
      (chk (inb (v5 + (1 : Int32)) L) (chk (inb (v5 + (2 : Int32)) L) (if (xs ((v5 + (2 : Int32))).toNatClampNeg) = 0 then
        (b_L_law_515 L xs (b_L_law_28 L xs n) v5 (xs ((v5 + (1 : Int32))).toNatClampNeg) (0 : Int32) σ X)
      else
        (b_L_law_515 L xs (b_L_law_28 L xs n) v5 (xs ((v5 + (1 : Int32))).toNatClampNeg) (1 : Int32) σ X))))
    else if vx3 = (5 : Int32) then
      (chk (inb (v5 + (1 : Int32)) L) (chk (inb (v5 + (2 : Int32)) L) (if (xs ((v5 + (2 : Int32))).toNatClampNeg) = 0 then
        (b_L_law_599 L xs (b_L_law_28 L xs n) v5 (xs ((v5 + (1 : Int32))).toNatClampNeg) (0 : Int32) σ X)
      else
        (b_L_law_599 L xs (b_L_law_28 L xs n) v5 (xs ((v5 + (1 : Int32))).toNatClampNeg) (1 : Int32) σ X))))
    else if vx3 = (6 : Int32) then
      (lthn (f_L_polled σ X) (fun vr54 σ54 X54 => wthn (f_X5_polled σ54) (fun vr55 σ55 => rthn (f_X5_thrown σ55) (fun vr56 => if vr56 = vr54 then
        (if vr54 = 0 then
          (if (lg_cmp (X54.1 ((0 : Int32)).toNatClampNeg) (vr55.toInt64)) = 0 then
            (b_L_law_28 L xs n (v5 + 7) σ55 X54)
          else
            (some (0 : Int32)))
        else
          (b_L_law_28 L xs n (v5 + 7) σ55 X54))
      else
        (some (0 : Int32))))))
    else if vx3 = (7 : Int32) then
      (chk (inb (v5 + (1 : Int32)) L) (chk (inb (v5 + (2 : Int32)) L) (if (xs ((v5 + (2 : Int32))).toNatClampNeg) = 0 then
        (b_L_law_727 L xs (b_L_law_28 L xs n) v5 (xs ((v5 + (1 : Int32))).toNatClampNeg) (0 : Int32) σ X)
      else
        (b_L_law_727 L xs (b_L_law_28 L xs n) v5 (xs ((v5 + (1 : Int32))).toNatClampNeg) (1 : Int32) σ X))))
    else if vx3 = (8 : Int32) then
      (chk (inb (v5 + (1 : Int32)) L) (lthn (f_L_drained (xs ((v5 + (1 : Int32))).toNatClampNeg) σ X) (fun vr64 σ64 X64 => chk (inb (v5 + (1 : Int32)) L) (wthn (f_X5_drained (xs ((v5 + (1 : Int32))).toNatClampNeg) σ64) (fun vr66 σ66 => rthn (f_X5_thrown σ66) (fun vr67 => if vr67 = vr64 then
        (if vr64 = 0 then
          (if (lg_cmp (X64.1 ((0 : Int32)).toNatClampNeg) (vr66.toInt64)) = 0 then
            (b_L_law_28 L xs n (v5 + 7) σ66 X64)
          else
            (some (0 : Int32)))
        else
          (b_L_law_28 L xs n (v5 + 7) σ66 X64))
      else
        (some (0 : Int32))))))))
    else if vx3 = (9 : Int32) then
      (chk (inb (v5 + (1 : Int32)) L) (lthn (f_L_size (xs ((v5 + (1 : Int32))).toNatClampNeg) σ X) (fun vr72 σ72 X72 => chk (inb (v5 + (1 : Int32)) L) (wthn (f_X5_size (xs ((v5 + (1 : Int32))).toNatClampNeg) σ72) (fun vr74 σ74 => rthn (f_X5_thrown σ74) (fun vr75 => if vr75 = vr72 then
        (if vr72 = 0 then
          (if (lg_cmp (X72.1 ((0 : Int32)).toNatClampNeg) (vr74.toInt64)) = 0 then
            (b_L_law_28 L xs n (v5 + 7) σ74 X72)
          else
            (some (0 : Int32)))
        else
          (b_L_law_28 L xs n (v5 + 7) σ74 X72))
      else
        (some (0 : Int32))))))))
    else if vx3 = (10 : Int32) then
      (chk (inb (v5 + (1 : Int32)) L) (chk (inb (v5 + (2 : Int32)) L) (chk (inb (v5 + (3 : Int32)) L) (if (xs ((v5 + (3 : Int32))).toNatClampNeg) = 0 then
        (b_L_law_929 L xs (b_L_law_28 L xs n) v5 (xs ((v5 + (1 : Int32))).toNatClampNeg) (xs ((v5 + (2 : Int32))).toNatClampNeg) (0 : Int32) σ X)
      else
        (b_L_law_929 L xs (b_L_law_28 L xs n) v5 (xs ((v5 + (1 : Int32))).toNatClampNeg) (xs ((v5 + (2 : Int32))).toNatClampNeg) (1 : Int32) σ X)))))
    else if vx3 = (11 : Int32) then
      (chk (inb (v5 + (1 : Int32)) L) (lthn (f_L_mark (xs ((v5 + (1 : Int32))).toNatClampNeg) σ X) (fun vr84 σ84 X84 => chk (inb (v5 + (1 : Int32)) L) (wthn (f_X5_mark (xs ((v5 + (1 : Int32))).toNatClampNeg) σ84) (fun vr86 σ86 => rthn (f_X5_thrown σ86) (fun vr87 => if vr87 = vr84 then
        (if vr84 = 0 then
          (if (lg_cmp (X84.1 ((0 : Int32)).toNatClampNeg) (vr86.toInt64)) = 0 then
            (b_L_law_28 L xs n (v5 + 7) σ86 X84)
          else
            (some (0 : Int32)))
        else
          (b_L_law_28 L xs n (v5 + 7) σ86 X84))
      else
        (some (0 : Int32))))))))
    else if vx3 = (12 : Int32) then
      (chk (inb (v5 + (1 : Int32)) L) (chk (inb (v5 + (2 : Int32)) L) (lthn (f_L_isLike (xs ((v5 + (1 : Int32))).toNatClampNeg) (xs ((v5 + (2 : Int32))).toNatClampNeg) σ X) (fun vr93 σ93 X93 => chk (inb (v5 + (1 : Int32)) L) (chk (inb (v5 + (2 : Int32)) L) (wthn (f_X5_isLike (xs ((v5 + (1 : Int32))).toNatClampNeg) (xs ((v5 + (2 : Int32))).toNatClampNeg) σ93) (fun vr96 σ96 => rthn (f_X5_thrown σ96) (fun vr97 => if vr97 = vr93 then
        (if vr93 = 0 then
          (if vr96 = 0 then
            (if (lg_cmp (X93.1 ((0 : Int32)).toNatClampNeg) (0 : Int64)) = 0 then
              (b_L_law_28 L xs n (v5 + 7) σ96 X93)
            else
              (some (0 : Int32)))
          else
            (if (lg_cmp (X93.1 ((0 : Int32)).toNatClampNeg) (1 : Int64)) = 0 then
              (b_L_law_28 L xs n (v5 + 7) σ96 X93)
            else
              (some (0 : Int32))))
        else
          (b_L_law_28 L xs n (v5 + 7) σ96 X93))
      else
        (some (0 : Int32))))))))))
    else if vx3 = (13 : Int32) then
      (chk (inb (v5 + (1 : Int32)) L) (chk (inb (v5 + (2 : Int32)) L) (chk (inb (v5 + (3 : Int32)) L) (chk (inb (v5 + (4 : Int32)) L) (if (xs ((v5 + (4 : Int32))).toNatClampNeg) = 0 then
        (b_L_law_1162 L xs (b_L_law_28 L xs n) v5 (xs ((v5 + (1 : Int32))).toNatClampNeg) (xs ((v5 + (2 : Int32))).toNatClampNeg) (xs ((v5 + (3 : Int32))).toNatClampNeg) (0 : Int32) σ X)
      else
        (b_L_law_1162 L xs (b_L_law_28 L xs n) v5 (xs ((v5 + (1 : Int32))).toNatClampNeg) (xs ((v5 + (2 : Int32))).toNatClampNeg) (xs ((v5 + (3 : Int32))).toNatClampNeg) (1 : Int32) σ X))))))
    else if vx3 = (14 : Int32) then
      (chk (inb (v5 + (1 : Int32)) L) (chk (inb (v5 + (2 : Int32)) L) (chk (inb (v5 + (3 : Int32)) L) (if (xs ((v5 + (3 : Int32))).toNatClampNeg) = 0 then
        (b_L_law_1306 L xs (b_L_law_28 L xs n) v5 (xs ((v5 + (1 : Int32))).toNatClampNeg) (xs ((v5 + (2 : Int32))).toNatClampNeg) (0 : Int32) σ X)
      else
        (b_L_law_1306 L xs (b_L_law_28 L xs n) v5 (xs ((v5 + (1 : Int32))).toNatClampNeg) (xs ((v5 + (2 : Int32))).toNatClampNeg) (1 : Int32) σ X)))))
    else if vx3 = (15 : Int32) then
      (chk (inb (v5 + (1 : Int32)) L) (chk (inb (v5 + (2 : Int32)) L) (chk (inb (v5 + (3 : Int32)) L) (lthn (f_L_viewPut (xs ((v5 + (1 : Int32))).toNatClampNeg) (xs ((v5 + (2 : Int32))).toNatClampNeg) (xs ((v5 + (3 : Int32))).toNatClampNeg) σ X) (fun vr115 σ115 X115 => chk (inb (v5 + (1 : Int32)) L) (chk (inb (v5 + (2 : Int32)) L) (chk (inb (v5 + (3 : Int32)) L) (wthn (f_X5_viewPut (xs ((v5 + (1 : Int32))).toNatClampNeg) (xs ((v5 + (2 : Int32))).toNatClampNeg) (xs ((v5 + (3 : Int32))).toNatClampNeg) σ115) (fun vr119 σ119 => rthn (f_X5_thrown σ119) (fun vr120 => if vr120 = vr115 then
        (if vr115 = 0 then
          (if (lg_cmp (X115.1 ((0 : Int32)).toNatClampNeg) (vr119.toInt64)) = 0 then
            (b_L_law_28 L xs n (v5 + 7) σ119 X115)
          else
            (some (0 : Int32)))
        else
          (b_L_law_28 L xs n (v5 + 7) σ119 X115))
      else
        (some (0 : Int32))))))))))))
    else if vx3 = (16 : Int32) then
      (chk (inb (v5 + (1 : Int32)) L) (chk (inb (v5 + (2 : Int32)) L) (lthn (f_L_viewRemove (xs ((v5 + (1 : Int32))).toNatClampNeg) (xs ((v5 + (2 : Int32))).toNatClampNeg) σ X) (fun vr126 σ126 X126 => chk (inb (v5 + (1 : Int32)) L) (chk (inb (v5 + (2 : Int32)) L) (wthn (f_X5_viewRemove (xs ((v5 + (1 : Int32))).toNatClampNeg) (xs ((v5 + (2 : Int32))).toNatClampNeg) σ126) (fun vr129 σ129 => rthn (f_X5_thrown σ129) (fun vr130 => if vr130 = vr126 then
        (if vr126 = 0 then
          (if vr129 = 0 then
            (if (lg_cmp (X126.1 ((0 : Int32)).toNatClampNeg) (0 : Int64)) = 0 then
              (b_L_law_28 L xs n (v5 + 7) σ129 X126)
            else
              (some (0 : Int32)))
          else
            (if (lg_cmp (X126.1 ((0 : Int32)).toNatClampNeg) (1 : Int64)) = 0 then
              (b_L_law_28 L xs n (v5 + 7) σ129 X126)
            else
              (some (0 : Int32))))
        else
          (b_L_law_28 L xs n (v5 + 7) σ129 X126))
      else
        (some (0 : Int32))))))))))
    else if vx3 = (17 : Int32) then
      (chk (inb (v5 + (1 : Int32)) L) (chk (inb (v5 + (2 : Int32)) L) (chk (inb (v5 + (3 : Int32)) L) (lthn (f_L_viewNear (xs ((v5 + (1 : Int32))).toNatClampNeg) (xs ((v5 + (2 : Int32))).toNatClampNeg) (((xs ((v5 + (3 : Int32))).toNatClampNeg).toUInt32 % 65536).toInt32) σ X) (fun vr139 σ139 X139 => chk (inb (v5 + (1 : Int32)) L) (chk (inb (v5 + (2 : Int32)) L) (chk (inb (v5 + (3 : Int32)) L) (wthn (f_X5_viewNear (xs ((v5 + (1 : Int32))).toNatClampNeg) (xs ((v5 + (2 : Int32))).toNatClampNeg) (((xs ((v5 + (3 : Int32))).toNatClampNeg).toUInt32 % 65536).toInt32) σ139) (fun vr143 σ143 => rthn (f_X5_thrown σ143) (fun vr144 => if vr144 = vr139 then
        (if vr139 = 0 then
          (if (lg_cmp (X139.1 ((0 : Int32)).toNatClampNeg) (vr143.toInt64)) = 0 then
            (b_L_law_28 L xs n (v5 + 7) σ143 X139)
          else
            (some (0 : Int32)))
        else
          (b_L_law_28 L xs n (v5 + 7) σ143 X139))
      else
        (some (0 : Int32))))))))))))
    else if vx3 = (18 : Int32) then
      (chk (inb (v5 + (1 : Int32)) L) (chk (inb (v5 + (2 : Int32)) L) (if (xs ((v5 + (2 : Int32))).toNatClampNeg) = 0 then
        (b_L_law_1673 L xs (b_L_law_28 L xs n) v5 (xs ((v5 + (1 : Int32))).toNatClampNeg) (0 : Int32) σ X)
      else
        (b_L_law_1673 L xs (b_L_law_28 L xs n) v5 (xs ((v5 + (1 : Int32))).toNatClampNeg) (1 : Int32) σ X))))
    else if vx3 = (19 : Int32) then
      (chk (inb (v5 + (1 : Int32)) L) (chk (inb (v5 + (2 : Int32)) L) (if (xs ((v5 + (2 : Int32))).toNatClampNeg) = 0 then
        (b_L_law_1757 L xs (b_L_law_28 L xs n) v5 (xs ((v5 + (1 : Int32))).toNatClampNeg) (0 : Int32) σ X)
      else
        (b_L_law_1757 L xs (b_L_law_28 L xs n) v5 (xs ((v5 + (1 : Int32))).toNatClampNeg) (1 : Int32) σ X))))
    else if vx3 = (20 : Int32) then
      (chk (inb (v5 + (1 : Int32)) L) (lthn (f_L_viewClear (xs ((v5 + (1 : Int32))).toNatClampNeg) σ X) (fun vr155 σ155 X155 => chk (inb (v5 + (1 : Int32)) L) (wthn (f_X5_viewClear (xs ((v5 + (1 : Int32))).toNatClampNeg) σ155) (fun vr157 σ157 => rthn (f_X5_thrown σ157) (fun vr158 => if vr158 = vr155 then
        (if vr155 = 0 then
          (if (lg_cmp (X155.1 ((0 : Int32)).toNatClampNeg) (vr157.toInt64)) = 0 then
            (b_L_law_28 L xs n (v5 + 7) σ157 X155)
          else
            (some (0 : Int32)))
        else
          (b_L_law_28 L xs n (v5 + 7) σ157 X155))
      else
        (some (0 : Int32))))))))
    else if vx3 = (21 : Int32) then
      (chk (inb (v5 + (1 : Int32)) L) (lthn (f_L_viewSize (xs ((v5 + (1 : Int32))).toNatClampNeg) σ X) (fun vr163 σ163 X163 => chk (inb (v5 + (1 : Int32)) L) (wthn (f_X5_viewSize (xs ((v5 + (1 : Int32))).toNatClampNeg) σ163) (fun vr165 σ165 => rthn (f_X5_thrown σ165) (fun vr166 => if vr166 = vr163 then
        (if vr163 = 0 then
          (if (lg_cmp (X163.1 ((0 : Int32)).toNatClampNeg) (vr165.toInt64)) = 0 then
            (b_L_law_28 L xs n (v5 + 7) σ165 X163)
          else
            (some (0 : Int32)))
        else
          (b_L_law_28 L xs n (v5 + 7) σ165 X163))
      else
        (some (0 : Int32))))))))
    else if vx3 = (22 : Int32) then
      (chk (inb (v5 + (1 : Int32)) L) (chk (inb (v5 + (2 : Int32)) L) (lthn (f_L_lies (xs ((v5 + (1 : Int32))).toNatClampNeg) (xs ((v5 + (2 : Int32))).toNatClampNeg) σ X) (fun vr172 σ172 X172 => chk (inb (v5 + (1 : Int32)) L) (chk (inb (v5 + (2 : Int32)) L) (wthn (f_X5_lies (xs ((v5 + (1 : Int32))).toNatClampNeg) (xs ((v5 + (2 : Int32))).toNatClampNeg) σ172) (fun vr175 σ175 => rthn (f_X5_thrown σ175) (fun vr176 => if vr176 = vr172 then
        (if vr172 = 0 then
          (if vr175 = 0 then
            (if (lg_cmp (X172.1 ((0 : Int32)).toNatClampNeg) (0 : Int64)) = 0 then
              (b_L_law_28 L xs n (v5 + 7) σ175 X172)
            else
              (some (0 : Int32)))
          else
            (if (lg_cmp (X172.1 ((0 : Int32)).toNatClampNeg) (1 : Int64)) = 0 then
              (b_L_law_28 L xs n (v5 + 7) σ175 X172)
            else
              (some (0 : Int32))))
        else
          (b_L_law_28 L xs n (v5 + 7) σ175 X172))
      else
        (some (0 : Int32))))))))))
    else if vx3 = (23 : Int32) then
      (chk (inb (v5 + (1 : Int32)) L) (chk (inb (v5 + (2 : Int32)) L) (chk (inb (v5 + (3 : Int32)) L) (chk (inb (v5 + (4 : Int32)) L) (lthn (f_L_step (xs ((v5 + (1 : Int32))).toNatClampNeg) (((xs ((v5 + (2 : Int32))).toNatClampNeg).toUInt32 % 65536).toInt32) (xs ((v5 + (3 : Int32))).toNatClampNeg) (xs ((v5 + (4 : Int32))).toNatClampNeg) σ X) (fun vr186 σ186 X186 => chk (inb (v5 + (1 : Int32)) L) (chk (inb (v5 + (2 : Int32)) L) (chk (inb (v5 + (3 : Int32)) L) (chk (inb (v5 + (4 : Int32)) L) (wthn (f_X5_step (xs ((v5 + (1 : Int32))).toNatClampNeg) (((xs ((v5 + (2 : Int32))).toNatClampNeg).toUInt32 % 65536).toInt32) (xs ((v5 + (3 : Int32))).toNatClampNeg) (xs ((v5 + (4 : Int32))).toNatClampNeg) σ186) (fun vr191 σ191 => rthn (f_X5_thrown σ191) (fun vr192 => if vr192 = vr186 then
        (if vr186 = 0 then
          (if (lg_cmp (X186.1 ((0 : Int32)).toNatClampNeg) (vr191.toInt64)) = 0 then
            (b_L_law_28 L xs n (v5 + 7) σ191 X186)
          else
            (some (0 : Int32)))
        else
          (b_L_law_28 L xs n (v5 + 7) σ191 X186))
      else
        (some (0 : Int32))))))))))))))
    else if vx3 = (24 : Int32) then
      (chk (inb (v5 + (1 : Int32)) L) (lthn (f_L_forget (xs ((v5 + (1 : Int32))).toNatClampNeg) σ X) (fun vr197 σ197 X197 => chk (inb (v5 + (1 : Int32)) L) (wthn (f_X5_forget (xs ((v5 + (1 : Int32))).toNatClampNeg) σ197) (fun vr199 σ199 => rthn (f_X5_thrown σ199) (fun vr200 => if vr200 = vr197 then
        (if vr197 = 0 then
          (if (lg_cmp (X197.1 ((0 : Int32)).toNatClampNeg) (vr199.toInt64)) = 0 then
            (b_L_law_28 L xs n (v5 + 7) σ199 X197)
          else
            (some (0 : Int32)))
        else
          (b_L_law_28 L xs n (v5 + 7) σ199 X197))
      else
        (some (0 : Int32))))))))
    else if vx3 = (25 : Int32) then
      (chk (inb (v5 + (1 : Int32)) L) (chk (inb (v5 + (2 : Int32)) L) (lthn (f_L_play (xs ((v5 + (1 : Int32))).toNatClampNeg) (xs ((v5 + (2 : Int32))).toNatClampNeg) σ X) (fun vr206 σ206 X206 => chk (inb (v5 + (1 : Int32)) L) (chk (inb (v5 + (2 : Int32)) L) (wthn (f_X5_play (xs ((v5 + (1 : Int32))).toNatClampNeg) (xs ((v5 + (2 : Int32))).toNatClampNeg) σ206) (fun vr209 σ209 => rthn (f_X5_thrown σ209) (fun vr210 => if vr210 = vr206 then
        (if vr206 = 0 then
          (if (lg_cmp (X206.1 ((0 : Int32)).toNatClampNeg) (vr209.toInt64)) = 0 then
            (b_L_law_28 L xs n (v5 + 7) σ209 X206)
          else
            (some (0 : Int32)))
        else
          (b_L_law_28 L xs n (v5 + 7) σ209 X206))
      else
        (some (0 : Int32))))))))))
    else if vx3 = (26 : Int32) then
      (chk (inb (v5 + (1 : Int32)) L) (chk (inb (v5 + (2 : Int32)) L) (chk (inb (v5 + (3 : Int32)) L) (chk (inb (v5 + (4 : Int32)) L) (lthn (f_L_playBoth (xs ((v5 + (1 : Int32))).toNatClampNeg) (xs ((v5 + (2 : Int32))).toNatClampNeg) (xs ((v5 + (3 : Int32))).toNatClampNeg) (xs ((v5 + (4 : Int32))).toNatClampNeg) σ X) (fun vr218 σ218 X218 => chk (inb (v5 + (1 : Int32)) L) (chk (inb (v5 + (2 : Int32)) L) (chk (inb (v5 + (3 : Int32)) L) (chk (inb (v5 + (4 : Int32)) L) (wthn (f_X5_playBoth (xs ((v5 + (1 : Int32))).toNatClampNeg) (xs ((v5 + (2 : Int32))).toNatClampNeg) (xs ((v5 + (3 : Int32))).toNatClampNeg) (xs ((v5 + (4 : Int32))).toNatClampNeg) σ218) (fun vr223 σ223 => rthn (f_X5_thrown σ223) (fun vr224 => if vr224 = vr218 then
        (if vr218 = 0 then
          (if (lg_cmp (X218.1 ((0 : Int32)).toNatClampNeg) (vr223.toInt64)) = 0 then
            (b_L_law_28 L xs n (v5 + 7) σ223 X218)
          else
            (some (0 : Int32)))
        else
          (b_L_law_28 L xs n (v5 + 7) σ223 X218))
      else
        (some (0 : Int32))))))))))))))
    else if vx3 = (27 : Int32) then
      (chk (inb (v5 + (1 : Int32)) L) (chk (inb (v5 + (2 : Int32)) L) (lthn (f_L_meet (xs ((v5 + (1 : Int32))).toNatClampNeg) (xs ((v5 + (2 : Int32))).toNatClampNeg) σ X) (fun vr230 σ230 X230 => chk (inb (v5 + (1 : Int32)) L) (chk (inb (v5 + (2 : Int32)) L) (wthn (f_X5_meet (xs ((v5 + (1 : Int32))).toNatClampNeg) (xs ((v5 + (2 : Int32))).toNatClampNeg) σ230) (fun vr233 σ233 => rthn (f_X5_thrown σ233) (fun vr234 => if vr234 = vr230 then
        (if vr230 = 0 then
          (if (lg_cmp (X230.1 ((0 : Int32)).toNatClampNeg) (vr233.toInt64)) = 0 then
            (b_L_law_28 L xs n (v5 + 7) σ233 X230)
          else
            (some (0 : Int32)))
        else
          (b_L_law_28 L xs n (v5 + 7) σ233 X230))
      else
        (some (0 : Int32))))))))))
    else if vx3 = (28 : Int32) then
      (chk (inb (v5 + (1 : Int32)) L) (chk (inb (v5 + (2 : Int32)) L) (chk (inb (v5 + (3 : Int32)) L) (lthn (f_L_opposite (xs ((v5 + (1 : Int32))).toNatClampNeg) (xs ((v5 + (2 : Int32))).toNatClampNeg) (xs ((v5 + (3 : Int32))).toNatClampNeg) σ X) (fun vr241 σ241 X241 => chk (inb (v5 + (1 : Int32)) L) (chk (inb (v5 + (2 : Int32)) L) (chk (inb (v5 + (3 : Int32)) L) (wthn (f_X5_opposite (xs ((v5 + (1 : Int32))).toNatClampNeg) (xs ((v5 + (2 : Int32))).toNatClampNeg) (xs ((v5 + (3 : Int32))).toNatClampNeg) σ241) (fun vr245 σ245 => rthn (f_X5_thrown σ245) (fun vr246 => if vr246 = vr241 then
        (if vr241 = 0 then
          (if (lg_cmp (X241.1 ((0 : Int32)).toNatClampNeg) (vr245.toInt64)) = 0 then
            (b_L_law_28 L xs n (v5 + 7) σ245 X241)
          else
            (some (0 : Int32)))
        else
          (b_L_law_28 L xs n (v5 + 7) σ245 X241))
      else
        (some (0 : Int32))))))))))))
    else if vx3 = (29 : Int32) then
      (chk (inb (v5 + (1 : Int32)) L) (chk (inb (v5 + (2 : Int32)) L) (chk (inb (v5 + (3 : Int32)) L) (lthn (f_L_combine (xs ((v5 + (1 : Int32))).toNatClampNeg) (xs ((v5 + (2 : Int32))).toNatClampNeg) (((xs ((v5 + (3 : Int32))).toNatClampNeg).toUInt32 % 65536).toInt32) σ X) (fun vr253 σ253 X253 => chk (inb (v5 + (1 : Int32)) L) (chk (inb (v5 + (2 : Int32)) L) (chk (inb (v5 + (3 : Int32)) L) (wthn (f_X5_combine (xs ((v5 + (1 : Int32))).toNatClampNeg) (xs ((v5 + (2 : Int32))).toNatClampNeg) (((xs ((v5 + (3 : Int32))).toNatClampNeg).toUInt32 % 65536).toInt32) σ253) (fun vr257 σ257 => rthn (f_X5_thrown σ257) (fun vr258 => if vr258 = vr253 then
        (if vr253 = 0 then
          (if (lg_cmp (X253.1 ((0 : Int32)).toNatClampNeg) (vr257.toInt64)) = 0 then
            (b_L_law_28 L xs n (v5 + 7) σ257 X253)
          else
            (some (0 : Int32)))
        else
          (b_L_law_28 L xs n (v5 + 7) σ257 X253))
      else
        (some (0 : Int32))))))))))))
    else if vx3 = (30 : Int32) then
      (chk (inb (v5 + (1 : Int32)) L) (lthn (f_L_fullShare (xs ((v5 + (1 : Int32))).toNatClampNeg) σ X) (fun vr263 σ263 X263 => chk (inb (v5 + (1 : Int32)) L) (wthn (f_X5_fullShare (xs ((v5 + (1 : Int32))).toNatClampNeg) σ263) (fun vr265 σ265 => rthn (f_X5_thrown σ265) (fun vr266 => if vr266 = vr263 then
        (if vr263 = 0 then
          (chk (nn64 (FP.f2d vr265)) (if (Op.cmpValue (FP.dcmp (X263.2 ((0 : Int32)).toNatClampNeg) (FP.f2d vr265)) .l) = 0 then
            (b_L_law_28 L xs n (v5 + 7) σ265 X263)
          else
            (if (Op.cmpValue (FP.dcmp (X263.2 ((0 : Int32)).toNatClampNeg) (X263.2 ((0 : Int32)).toNatClampNeg)) .l) = 0 then
              (some (0 : Int32))
            else
              (if (Op.cmpValue (FP.fcmp vr265 vr265) .l) = 0 then
                (some (0 : Int32))
              else
                (b_L_law_28 L xs n (v5 + 7) σ265 X263)))))
        else
          (b_L_law_28 L xs n (v5 + 7) σ265 X263))
      else
        (some (0 : Int32))))))))
    else if vx3 = (31 : Int32) then
      (chk (inb (v5 + (1 : Int32)) L) (lthn (f_L_meanKey (xs ((v5 + (1 : Int32))).toNatClampNeg) σ X) (fun vr274 σ274 X274 => chk (inb (v5 + (1 : Int32)) L) (wthn (f_X5_meanKey (xs ((v5 + (1 : Int32))).toNatClampNeg) σ274) (fun vr276 σ276 => rthn (f_X5_thrown σ276) (fun vr277 => if vr277 = vr274 then
        (if vr274 = 0 then
          (if (Op.cmpValue (FP.dcmp (X274.2 ((0 : Int32)).toNatClampNeg) vr276) .l) = 0 then
            (b_L_law_28 L xs n (v5 + 7) σ276 X274)
          else
            (if (Op.cmpValue (FP.dcmp (X274.2 ((0 : Int32)).toNatClampNeg) (X274.2 ((0 : Int32)).toNatClampNeg)) .l) = 0 then
              (some (0 : Int32))
            else
              (if (Op.cmpValue (FP.dcmp vr276 vr276) .l) = 0 then
                (some (0 : Int32))
              else
                (b_L_law_28 L xs n (v5 + 7) σ276 X274))))
        else
          (b_L_law_28 L xs n (v5 + 7) σ276 X274))
      else
        (some (0 : Int32))))))))
    else if vx3 = (32 : Int32) then
      (rthn (f_X4_checksum σ) (fun vr283 => wthn (f_X5_checksum σ) (fun vr284 σ284 => if (lg_cmp vr283 vr284) = 0 then
        (b_L_law_28 L xs n (v5 + 7) σ284 X)
      else
        (some (0 : Int32)))))
    else if vx3 = (33 : Int32) then
      (wthn (f_X4_isSound σ) (fun vr286 σ286 => wthn (f_X5_isSound σ286) (fun vr287 σ287 => if vr286 = vr287 then
        (b_L_law_28 L xs n (v5 + 7) σ287 X)
      else
        (some (0 : Int32)))))
    else (b_L_law_28 L xs n (v5 + 7) σ X))))
