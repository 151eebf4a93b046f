def fX7_put_3 (k3 : Int32 × Int32 × zSt → Option (Unit × zSt)) (x1 : Int32) (x2 : Int32) (S : zSt) : Option (Unit × zSt) :=
  if x2 < 0 then
    some ((), S)
  else
    if (nI 800) ≤ (zI S 5) then
      some ((), S)
    else
      zck 800 (zI S 5) (
      k3 (x1, (x2 + (-8 : Int32)), wI (wA S 11 ((zI S 5).toNatClampNeg) (vp_nar .byte ((x1 >>> (x2 &&& 31)).toInt8.toInt32))) 5 ((zI S 5) + (nI 1))))
def fX7_put_3L (n : Nat) (a : Int32 × Int32 × zSt) : Option (Unit × zSt) := zfix (fun k3 a => fX7_put_3 k3 a.1 a.2.1 a.2.2) n a
def fX7_put (a1 : Int32) (S : zSt) : Option (Unit × zSt) :=
  fX7_put_3L zFU (a1, (nI 24), S)

def fX7_size (S : zSt) : Option (Int32 × zSt) :=
  some ((zI S 5), S)

def fX9_feed (a1 : Int32) (a2 : Int32) (a3 : Int32) (a4 : Int32) (a5 : Int32) (S : zSt) : Option (Int32 × zSt) :=
  zbd (fX7_size S) (fun r1 S2 =>
  if r1 ≤ (nI 780) then
    zbd (fX7_put a1 S2) (fun _ S4 =>
    zbd (fX7_put a2 S4) (fun _ S6 =>
    zbd (fX7_put a3 S6) (fun _ S8 =>
    zbd (fX7_put a4 S8) (fun _ S10 =>
    zbd (fX7_put a5 S10) (fun _ S12 =>
    zbd (fX7_size S12) (fun r13 S14 =>
    some (r13, S14)))))))
  else
    some ((-2 : Int32), S2))

def fX7_keepFirst (a1 : Int32) (S : zSt) : Option (Int32 × zSt) :=
  some (((zI S 5) - a1), wI S 5 a1)

def fX9_cut (a1 : Int32) (S : zSt) : Option (Int32 × zSt) :=
  if a1 < 0 then
    some ((-1 : Int32), S)
  else
    zbd (fX7_size S) (fun r1 S2 =>
    if a1 ≤ r1 then
      zbd (fX7_keepFirst a1 S2) (fun r3 S4 =>
      some (r3, S4))
    else
      some ((-1 : Int32), S2))

def fX0_add_42 (x1 : Int32) (x2 : Int32) (x3 : Int32) (x4 : Int32) (S : zSt) : Option (Int32 × zSt) :=
  if x4 < (nI 400) then
    zck 400 x4 (
    zck 400 x4 (
    zck 400 x4 (
    zck 400 x4 (
    if ((zI S 14) + (nI 1)) ≤ (zI S 16) then
      some (x4, wI (wI (wI (wI (wA (wA (wA (wA S 25 (x4.toNatClampNeg) x1) 26 (x4.toNatClampNeg) x2) 27 (x4.toNatClampNeg) x3) 28 (x4.toNatClampNeg) (zI S 18)) 17 (x4 + (nI 1))) 14 ((zI S 14) + (nI 1))) 15 ((zI S 15) + (nI 1))) 16 (zI S 16))
    else
      some (x4, wI (wI (wI (wI (wA (wA (wA (wA S 25 (x4.toNatClampNeg) x1) 26 (x4.toNatClampNeg) x2) 27 (x4.toNatClampNeg) x3) 28 (x4.toNatClampNeg) (zI S 18)) 17 (x4 + (nI 1))) 14 ((zI S 14) + (nI 1))) 15 ((zI S 15) + (nI 1))) 16 ((zI S 14) + (nI 1)))))))
  else
    some ((-1 : Int32), S)
def fX0_add_17 (k17 : Int32 × Int32 × Int32 × Int32 × zSt → Option (Int32 × zSt)) (x1 : Int32) (x2 : Int32) (x3 : Int32) (x4 : Int32) (S : zSt) : Option (Int32 × zSt) :=
  if (nI 400) ≤ x4 then
    fX0_add_42 x1 x2 x3 x4 S
  else
    zld 400 x4 (zA S 25) (fun v1 =>
    if v1 = (-1 : Int32) then
      fX0_add_42 x1 x2 x3 x4 S
    else
      k17 (x1, x2, x3, (x4 + (nI 1)), S))
def fX0_add_17L (n : Nat) (a : Int32 × Int32 × Int32 × Int32 × zSt) : Option (Int32 × zSt) := zfix (fun k17 a => fX0_add_17 k17 a.1 a.2.1 a.2.2.1 a.2.2.2.1 a.2.2.2.2) n a
def fX0_add (a1 : Int32) (a2 : Int32) (a3 : Int32) (S : zSt) : Option (Int32 × zSt) :=
  if 0 ≤ (zI S 17) then
    fX0_add_17L zFU (a1, a2, a3, (zI S 17), S)
  else
    fX0_add_17L zFU (a1, a2, a3, (nI 0), S)

def fX0_clear_2 (k2 : Int32 × zSt → Option (Unit × zSt)) (x1 : Int32) (S : zSt) : Option (Unit × zSt) :=
  if (nI 400) ≤ x1 then
    some ((), wI (wI (wI (wI (wI S 14 (nI 0)) 15 (nI 0)) 16 (nI 0)) 17 (nI 0)) 18 (-3 : Int32))
  else
    zck 400 x1 (
    k2 ((x1 + (nI 1)), wA S 25 (x1.toNatClampNeg) (-1 : Int32)))
def fX0_clear_2L (n : Nat) (a : Int32 × zSt) : Option (Unit × zSt) := zfix (fun k2 a => fX0_clear_2 k2 a.1 a.2) n a
def fX0_clear (S : zSt) : Option (Unit × zSt) :=
  fX0_clear_2L zFU ((nI 0), S)

def fX4_definitionOf_2 (k2 : Int64 × Int32 × zSt → Option (Int32 × zSt)) (x1 : Int64) (x3 : Int32) (S : zSt) : Option (Int32 × zSt) :=
  if (zI S 6) ≤ x3 then
    some ((-1 : Int32), S)
  else
    if (nI 20) ≤ x3 then
      some ((-1 : Int32), S)
    else
      zld 20 x3 (zB S 12) (fun v1 =>
      if (lg_cmp v1 x1) = 0 then
        some (x3, S)
      else
        k2 (x1, (x3 + (nI 1)), S))
def fX4_definitionOf_2L (n : Nat) (a : Int64 × Int32 × zSt) : Option (Int32 × zSt) := zfix (fun k2 a => fX4_definitionOf_2 k2 a.1 a.2.1 a.2.2) n a
def fX4_definitionOf (a1 : Int64) (S : zSt) : Option (Int32 × zSt) :=
  fX4_definitionOf_2L zFU (a1, (nI 0), S)

def fX4_size (S : zSt) : Option (Int32 × zSt) :=
  some ((zI S 6), S)

def fX6_push (a1 : Int32) (S : zSt) : Option (Unit × zSt) :=
  if (zI S 19) < 0 then
    some ((), S)
  else
    if (nI 600) ≤ (zI S 19) then
      some ((), S)
    else
      zck 600 (zI S 19) (
      some ((), wI (wA S 29 ((zI S 19).toNatClampNeg) a1) 19 ((zI S 19) + (nI 1))))

def fX6_begin (a1 : Int32) (S : zSt) : Option (Unit × zSt) :=
  zck 600 (nI 0) (
  zbd (fX6_push a1 (wA (wI (wI S 19 (nI 0)) 20 (nI 0)) 30 ((nI 0).toNatClampNeg) (nI 0))) (fun _ S2 =>
  some ((), S2)))

def fX2_begin_9 (k9 : Int32 × zSt → Option (Unit × zSt)) (x1 : Int32) (S : zSt) : Option (Unit × zSt) :=
  if (nI 20) ≤ x1 then
    zbd (fX4_definitionOf (1835100526 : Int64) S) (fun r3 S4 =>
    zbd (fX6_begin r3 S4) (fun _ S6 =>
    some ((), wI S6 21 (nI 0))))
  else
    zck 20 x1 (
    zck 20 x1 (
    zbd (fX4_size (wA (wA S 31 (x1.toNatClampNeg) (nI 0)) 32 (x1.toNatClampNeg) (nI 0))) (fun r7 S8 =>
    if r7 ≤ x1 then
      k9 ((x1 + (nI 1)), S8)
    else
      zbd (fX0_add (nI 2) x1 (-3 : Int32) S8) (fun r9 S10 =>
      k9 ((x1 + (nI 1)), S10)))))
def fX2_begin_9L (n : Nat) (a : Int32 × zSt) : Option (Unit × zSt) := zfix (fun k9 a => fX2_begin_9 k9 a.1 a.2) n a
def fX2_begin (S : zSt) : Option (Unit × zSt) :=
  zbd (fX0_clear S) (fun _ S2 =>
  fX2_begin_9L zFU ((nI 0), S2))

def fX5_faultFound (S : zSt) : Option (Int32 × zSt) :=
  some ((zI S 8), S)

def fX5_faultPlace (S : zSt) : Option (Int32 × zSt) :=
  some ((zI S 9), S)

def fX4_clear (S : zSt) : Option (Unit × zSt) :=
  some ((), wI (wI S 6 (nI 0)) 7 (nI 0))

def fX4_firstUntold_2 (k2 : Int32 × zSt → Option (Int32 × zSt)) (x1 : Int32) (S : zSt) : Option (Int32 × zSt) :=
  if (zI S 7) ≤ x1 then
    some ((-1 : Int32), S)
  else
    if (nI 800) ≤ x1 then
      some ((-1 : Int32), S)
    else
      zld 800 x1 (zA S 17) (fun v1 =>
      if v1 = (nI 8) then
        zld 800 x1 (zA S 21) (fun v2 =>
        some (v2, S))
      else
        k2 ((x1 + (nI 1)), S))
def fX4_firstUntold_2L (n : Nat) (a : Int32 × zSt) : Option (Int32 × zSt) := zfix (fun k2 a => fX4_firstUntold_2 k2 a.1 a.2) n a
def fX4_firstUntold (S : zSt) : Option (Int32 × zSt) :=
  fX4_firstUntold_2L zFU ((nI 0), S)

def fX4_isDefinition (a0 : Int32) (S : zSt) : Option (Int32 × zSt) :=
  if a0 < 0 then
    some ((nI 0), S)
  else
    if (nI 20) ≤ a0 then
      some ((nI 0), S)
    else
      some ((nI 1), S)

def fX4_parametersOf (a1 : Int32) (S : zSt) : Option (Int32 × zSt) :=
  zbd (fX4_isDefinition a1 S) (fun r1 S2 =>
  if r1 = 0 then
    some ((nI 0), S2)
  else
    zld 20 a1 (zA S2 13) (fun v3 =>
    some (v3, S2)))

def fX4_tell_11 (k11 : Int64 × Int32 × Int32 × Int32 × zSt → Option (Unit × zSt)) (x2 : Int64) (x4 : Int32) (x5 : Int32) (x6 : Int32) (S : zSt) : Option (Unit × zSt) :=
  if (zI S 7) ≤ x6 then
    some ((), S)
  else
    if (nI 800) ≤ x6 then
      some ((), S)
    else
      zld 800 x6 (zA S 17) (fun v1 =>
      if v1 = (nI 8) then
        zld 800 x6 (zB S 20) (fun v2 =>
        if (lg_cmp v2 x2) = 0 then
          zck 800 x6 (
          zck 800 x6 (
          k11 (x2, x4, x5, (x6 + (nI 1)), wA (wA S 17 (x6.toNatClampNeg) x4) 18 (x6.toNatClampNeg) x5)))
        else
          k11 (x2, x4, x5, (x6 + (nI 1)), S))
      else
        k11 (x2, x4, x5, (x6 + (nI 1)), S))
def fX4_tell_11L (n : Nat) (a : Int64 × Int32 × Int32 × Int32 × zSt) : Option (Unit × zSt) := zfix (fun k11 a => fX4_tell_11 k11 a.1 a.2.1 a.2.2.1 a.2.2.2.1 a.2.2.2.2) n a
def fX4_tell (a1 : Int32) (a2 : Int64) (a4 : Int32) (a5 : Int32) (S : zSt) : Option (Unit × zSt) :=
  if 0 ≤ a1 then
    fX4_tell_11L zFU (a2, a4, a5, a1, S)
  else
    fX4_tell_11L zFU (a2, a4, a5, (nI 0), S)

def fX4_tellDefinitions_2 (k2 : Int32 × zSt → Option (Unit × zSt)) (x1 : Int32) (S : zSt) : Option (Unit × zSt) :=
  if (zI S 6) ≤ x1 then
    some ((), S)
  else
    if (nI 20) ≤ x1 then
      some ((), S)
    else
      zld 20 x1 (zB S 12) (fun v1 =>
      zbd (fX4_tell (nI 0) v1 (nI 2) x1 S) (fun _ S3 =>
      k2 ((x1 + (nI 1)), S3)))
def fX4_tellDefinitions_2L (n : Nat) (a : Int32 × zSt) : Option (Unit × zSt) := zfix (fun k2 a => fX4_tellDefinitions_2 k2 a.1 a.2) n a
def fX4_tellDefinitions (S : zSt) : Option (Unit × zSt) :=
  fX4_tellDefinitions_2L zFU ((nI 0), S)

def fX5_fail (a1 : Int32) (a2 : Int32) (S : zSt) : Option (Int32 × zSt) :=
  some ((nI 0), wI (wI S 8 a1) 9 a2)

def fX8_end (S : zSt) : Option (Int32 × zSt) :=
  zbd (fX7_size S) (fun r1 S2 =>
  some (r1, S2))

def fX5_checkNames_57 (S : zSt) : Option (Unit × zSt) :=
  zbd (fX8_end S) (fun r11 S12 =>
  zbd (fX5_fail (nI 6) r11 S12) (fun r13 S14 =>
  some ((), S14)))
def fX5_checkNames (S : zSt) : Option (Unit × zSt) :=
  zbd (fX4_tellDefinitions S) (fun _ S2 =>
  zbd (fX4_firstUntold S2) (fun r3 S4 =>
  zbd (fX4_definitionOf (1835100526 : Int64) S4) (fun r5 S6 =>
  if r3 = (-1 : Int32) then
    if r5 = (-1 : Int32) then
      fX5_checkNames_57 S6
    else
      zbd (fX4_parametersOf r5 S6) (fun r7 S8 =>
      if r7 ≤ 0 then
        some ((), S8)
      else
        fX5_checkNames_57 S8)
  else
    zbd (fX5_fail (nI 5) r3 S6) (fun r9 S10 =>
    some ((), S10)))))

def fX4_isDeed (a0 : Int32) (S : zSt) : Option (Int32 × zSt) :=
  if a0 < 0 then
    some ((nI 0), S)
  else
    if (nI 800) ≤ a0 then
      some ((nI 0), S)
    else
      some ((nI 1), S)

def fX4_aboutAt (a1 : Int32) (S : zSt) : Option (Int32 × zSt) :=
  zbd (fX4_isDeed a1 S) (fun r1 S2 =>
  if r1 = 0 then
    some ((nI 0), S2)
  else
    zld 800 a1 (zA S2 18) (fun v3 =>
    some (v3, S2)))

def fX4_deedAt (a1 : Int32) (S : zSt) : Option (Int32 × zSt) :=
  zbd (fX4_isDeed a1 S) (fun r1 S2 =>
  if r1 = 0 then
    some ((nI 8), S2)
  else
    zld 800 a1 (zA S2 17) (fun v3 =>
    some (v3, S2)))

def fX4_countNodes_4 (k4 : Int32 × Int32 × zSt → Option (Int32 × zSt)) (x2 : Int32) (x3 : Int32) (S : zSt) : Option (Int32 × zSt) :=
  if (zI S 7) ≤ x3 then
    some (x2, S)
  else
    zbd (fX4_deedAt x3 S) (fun r1 S2 =>
    if r1 = (nI 0) then
      k4 ((x2 + (nI 1)), (x3 + (nI 1)), S2)
    else
    if r1 = (nI 1) then
      k4 ((x2 + (nI 1)), (x3 + (nI 1)), S2)
    else
    if r1 = (nI 5) then
      zbd (fX4_aboutAt x3 S2) (fun r3 S4 =>
      k4 ((x2 + (r3 - (nI 1))), (x3 + (nI 1)), S4))
    else
    if r1 = (nI 6) then
      zbd (fX4_aboutAt x3 S2) (fun r5 S6 =>
      k4 ((x2 + r5), (x3 + (nI 1)), S6))
    else
    k4 (x2, (x3 + (nI 1)), S2))
def fX4_countNodes_4L (n : Nat) (a : Int32 × Int32 × zSt) : Option (Int32 × zSt) := zfix (fun k4 a => fX4_countNodes_4 k4 a.1 a.2.1 a.2.2) n a
def fX4_countNodes (a1 : Int32) (S : zSt) : Option (Int32 × zSt) :=
  fX4_countNodes_4L zFU ((nI 0), a1, S)

def fX4_closeDefinition (a1 : Int32) (S : zSt) : Option (Unit × zSt) :=
  if ((zI S 6) - (nI 1)) < 0 then
    some ((), S)
  else
    if (nI 20) ≤ ((zI S 6) - (nI 1)) then
      some ((), S)
    else
      zck 20 ((zI S 6) - (nI 1)) (
      zck 20 ((zI S 6) - (nI 1)) (
      zld 20 ((zI S 6) - (nI 1)) (zA S 14) (fun v1 =>
      zbd (fX4_countNodes v1 (wA (wA S 13 (((zI S 6) - (nI 1)).toNatClampNeg) a1) 15 (((zI S 6) - (nI 1)).toNatClampNeg) (zI S 7))) (fun r2 S3 =>
      zck 20 ((zI S 6) - (nI 1)) (
      some ((), wA S3 16 (((zI S 6) - (nI 1)).toNatClampNeg) r2))))))

def fX4_deedCount (S : zSt) : Option (Int32 × zSt) :=
  some ((zI S 7), S)

def fX4_openDefinition (a1 : Int64) (S : zSt) : Option (Unit × zSt) :=
  if (nI 20) ≤ (zI S 6) then
    some ((), S)
  else
    zck 20 (zI S 6) (
    zck 20 (zI S 6) (
    zck 20 (zI S 6) (
    zck 20 (zI S 6) (
    zck 20 (zI S 6) (
    some ((), wI (wA (wA (wA (wA (wB S 12 ((zI S 6).toNatClampNeg) a1) 13 ((zI S 6).toNatClampNeg) (nI 0)) 14 ((zI S 6).toNatClampNeg) (zI S 7)) 15 ((zI S 6).toNatClampNeg) (zI S 7)) 16 ((zI S 6).toNatClampNeg) (nI 0)) 6 ((zI S 6) + (nI 1))))))))

def fX8_kind (S : zSt) : Option (Int32 × zSt) :=
  some ((zI S 11), S)

def fX8_place (S : zSt) : Option (Int32 × zSt) :=
  some ((zI S 12), S)

def fX5_cannotStand_17 (y0 : Int32) (S : zSt) : Option (Int32 × zSt) :=
  zbd (fX8_place S) (fun r3 S4 =>
  zbd (fX5_fail y0 r3 S4) (fun r5 S6 =>
  zbo r5 (
  some (r5, S6))))
def fX5_cannotStand (S : zSt) : Option (Int32 × zSt) :=
  zbd (fX8_kind S) (fun r1 S2 =>
  if r1 = (nI 10) then
    fX5_cannotStand_17 (nI 1) S2
  else
    fX5_cannotStand_17 (nI 2) S2)

def fX4_addDeed_ (a1 : Int32) (a2 : Int32) (a3 : Int64) (a5 : Int32) (S : zSt) : Option (Unit × zSt) :=
  if (nI 800) ≤ (zI S 7) then
    some ((), S)
  else
    zck 800 (zI S 7) (
    zck 800 (zI S 7) (
    zck 800 (zI S 7) (
    zck 800 (zI S 7) (
    zck 800 (zI S 7) (
    some ((), wI (wA (wB (wA (wA (wA S 17 ((zI S 7).toNatClampNeg) a1) 18 ((zI S 7).toNatClampNeg) a2) 19 ((zI S 7).toNatClampNeg) (nI 0)) 20 ((zI S 7).toNatClampNeg) a3) 21 ((zI S 7).toNatClampNeg) a5) 7 ((zI S 7) + (nI 1))))))))

def fX4_addDeed (a1 : Int32) (a2 : Int32) (S : zSt) : Option (Unit × zSt) :=
  zbd (fX4_addDeed_ a1 a2 (0 : Int64) (nI 0) S) (fun _ S2 =>
  some ((), S2))

def fX5_beginsAtom (S : zSt) : Option (Int32 × zSt) :=
  zbd (fX8_kind S) (fun r1 S2 =>
  if r1 = (nI 1) then
    some ((nI 1), S2)
  else
    if r1 = (nI 3) then
      some ((nI 1), S2)
    else
      if r1 = (nI 2) then
        some ((nI 1), S2)
      else
        if r1 = (nI 8) then
          some ((nI 1), S2)
        else
          some ((nI 0), S2))

def fX4_addName (a1 : Int64) (a3 : Int32) (S : zSt) : Option (Unit × zSt) :=
  zbd (fX4_addDeed_ (nI 8) (nI 0) a1 a3 S) (fun _ S2 =>
  some ((), S2))

def fX7_byteAt (a1 : Int32) (S : zSt) : Option (Int32 × zSt) :=
  if a1 < 0 then
    some ((-1 : Int32), S)
  else
    if (zI S 5) ≤ a1 then
      some ((-1 : Int32), S)
    else
      if a1 < (nI 800) then
        zld 800 a1 (zA S 11) (fun v1 =>
        some ((v1 &&& (nI 255)), S))
      else
        some ((-1 : Int32), S)

def fX8_isDigit (a0 : Int32) (S : zSt) : Option (Int32 × zSt) :=
  if a0 < (nI 48) then
    some ((nI 0), S)
  else
    if (nI 57) < a0 then
      some ((nI 0), S)
    else
      some ((nI 1), S)

def fX8_isLetter (a0 : Int32) (S : zSt) : Option (Int32 × zSt) :=
  if a0 < (nI 97) then
    some ((nI 0), S)
  else
    if (nI 122) < a0 then
      some ((nI 0), S)
    else
      some ((nI 1), S)

def fX8_signOf (a0 : Int32) (S : zSt) : Option (Int32 × zSt) :=
  if a0 = (nI 40) then
    some ((nI 8), S)
  else
  if a0 = (nI 41) then
    some ((nI 9), S)
  else
  if a0 = (nI 59) then
    some ((nI 7), S)
  else
  if a0 = (nI 61) then
    some ((nI 6), S)
  else
  some ((nI 10), S)

def fX8_takeNumber_75 (S : zSt) : Option (Unit × zSt) :=
  if (nI 9) < ((zI S 10) - (zI S 12)) then
    some ((), wI S 11 (nI 10))
  else
    some ((), wI S 11 (nI 1))
def fX8_takeNumber_5 (k5 : zSt → Option (Unit × zSt)) (S : zSt) : Option (Unit × zSt) :=
  zbd (fX7_size S) (fun r1 S2 =>
  if r1 ≤ (zI S 10) then
    fX8_takeNumber_75 S2
  else
    zbd (fX7_byteAt (zI S2 10) S2) (fun r3 S4 =>
    zbd (fX8_isDigit r3 S4) (fun r5 S6 =>
    if r5 = 0 then
      fX8_takeNumber_75 S6
    else
      zbd (fX7_byteAt (zI S6 10) S6) (fun r7 S8 =>
      k5 (wI (wI S8 13 ((((zI S6 13) * (nI 10)) + r7) - (nI 48))) 10 ((zI S8 10) + (nI 1)))))))
def fX8_takeNumber_5L (n : Nat) (a : zSt) : Option (Unit × zSt) := zfix (fun k5 a => fX8_takeNumber_5 k5 a) n a
def fX8_takeNumber (S : zSt) : Option (Unit × zSt) :=
  fX8_takeNumber_5L zFU (wI S 13 (nI 0))

def fX8_isLetterOrDigit_12 (x0 : Int32) (S : zSt) : Option (Int32 × zSt) :=
  if x0 < (nI 48) then
    some ((nI 0), S)
  else
    if (nI 57) < x0 then
      some ((nI 0), S)
    else
      some ((nI 1), S)
def fX8_isLetterOrDigit (a0 : Int32) (S : zSt) : Option (Int32 × zSt) :=
  if a0 < (nI 97) then
    fX8_isLetterOrDigit_12 a0 S
  else
    if a0 ≤ (nI 122) then
      some ((nI 1), S)
    else
      fX8_isLetterOrDigit_12 a0 S

def fX8_kindOfWord_2 (k2 : Int32 × zSt → Option (Int32 × zSt)) (x1 : Int32) (S : zSt) : Option (Int32 × zSt) :=
  if (nI 15) ≤ x1 then
    some ((nI 2), S)
  else
    zld 15 x1 (zB S 24) (fun v1 =>
    if (lg_cmp v1 (zL S 0)) = 0 then
      if (nI 13) ≤ x1 then
        if x1 = (nI 13) then
          some ((nI 4), wI S 13 x1)
        else
          some ((nI 5), wI S 13 x1)
      else
        some ((nI 3), wI S 13 x1)
    else
      k2 ((x1 + (nI 1)), S))
def fX8_kindOfWord_2L (n : Nat) (a : Int32 × zSt) : Option (Int32 × zSt) := zfix (fun k2 a => fX8_kindOfWord_2 k2 a.1 a.2) n a
def fX8_kindOfWord (S : zSt) : Option (Int32 × zSt) :=
  fX8_kindOfWord_2L zFU ((nI 0), S)

def fX8_takeWord_73 (S : zSt) : Option (Unit × zSt) :=
  if (nI 8) < ((zI S 10) - (zI S 12)) then
    some ((), wI S 11 (nI 10))
  else
    zbd (fX8_kindOfWord S) (fun r9 S10 =>
    some ((), wI S10 11 r9))
def fX8_takeWord_5 (k5 : zSt → Option (Unit × zSt)) (S : zSt) : Option (Unit × zSt) :=
  zbd (fX7_size S) (fun r1 S2 =>
  if r1 ≤ (zI S 10) then
    fX8_takeWord_73 S2
  else
    zbd (fX7_byteAt (zI S2 10) S2) (fun r3 S4 =>
    zbd (fX8_isLetterOrDigit r3 S4) (fun r5 S6 =>
    if r5 = 0 then
      fX8_takeWord_73 S6
    else
      zbd (fX7_byteAt (zI S6 10) S6) (fun r7 S8 =>
      k5 (wI (wL S8 0 (((zL S6 0) <<< ((nI 8).toInt64 &&& 63)) ||| r7.toInt64)) 10 ((zI S8 10) + (nI 1)))))))
def fX8_takeWord_5L (n : Nat) (a : zSt) : Option (Unit × zSt) := zfix (fun k5 a => fX8_takeWord_5 k5 a) n a
def fX8_takeWord (S : zSt) : Option (Unit × zSt) :=
  fX8_takeWord_5L zFU (wL S 0 (0 : Int64))

def fX8_advance_38 (k12 : Int32 × zSt → Option (Unit × zSt)) (S : zSt) : Option (Unit × zSt) :=
  zbd (fX7_byteAt ((zI S 10) + (nI 1)) (wI S 10 ((zI S 10) + (nI 1)))) (fun r5 S6 =>
  k12 (r5, S6))
def fX8_advance_63 (x1 : Int32) (S : zSt) : Option (Unit × zSt) :=
  if x1 = (-1 : Int32) then
    some ((), wI (wI S 12 (zI S 10)) 11 (nI 0))
  else
    zbd (fX8_isDigit x1 (wI S 12 (zI S 10))) (fun r7 S8 =>
    if r7 = 0 then
      zbd (fX8_isLetter x1 S8) (fun r9 S10 =>
      if r9 = 0 then
        zbd (fX8_signOf x1 S10) (fun r11 S12 =>
        some ((), wI (wI S12 11 r11) 10 ((zI S12 10) + (nI 1))))
      else
        zbd (fX8_takeWord S10) (fun _ S14 =>
        some ((), S14)))
    else
      zbd (fX8_takeNumber S8) (fun _ S16 =>
      some ((), S16)))
def fX8_advance_12 (k12 : Int32 × zSt → Option (Unit × zSt)) (x1 : Int32) (S : zSt) : Option (Unit × zSt) :=
  zbd (fX7_size S) (fun r3 S4 =>
  if r3 ≤ (zI S 10) then
    fX8_advance_63 x1 S4
  else
    if x1 = (nI 32) then
      fX8_advance_38 k12 S4
    else
      if x1 = (nI 10) then
        fX8_advance_38 k12 S4
      else
        fX8_advance_63 x1 S4)
def fX8_advance_12L (n : Nat) (a : Int32 × zSt) : Option (Unit × zSt) := zfix (fun k12 a => fX8_advance_12 k12 a.1 a.2) n a
def fX8_advance (S : zSt) : Option (Unit × zSt) :=
  zbd (fX7_byteAt (zI S 10) S) (fun r1 S2 =>
  fX8_advance_12L zFU (r1, S2))

def fX5_take (a1 : Int32) (S : zSt) : Option (Int32 × zSt) :=
  zbd (fX8_kind S) (fun r1 S2 =>
  if r1 = a1 then
    zbd (fX8_advance S2) (fun _ S4 =>
    some ((nI 1), S4))
  else
    zbd (fX5_cannotStand S2) (fun r5 S6 =>
    zbo r5 (
    some (r5, S6))))

def fX5_readWithin (oE : Int32 → zSt → Option (Int32 × zSt)) (a1 : Int32) (S : zSt) : Option (Int32 × zSt) :=
  if a1 < (nI 12) then
    zbd (fX8_advance S) (fun _ S2 =>
    zbd (oE (a1 + (nI 1)) S2) (fun r3 S4 =>
    if r3 = 0 then
      some ((nI 0), S4)
    else
      zbd (fX5_take (nI 9) S4) (fun r5 S6 =>
      if r5 = 0 then
        some ((nI 0), S6)
      else
        some ((nI 1), S6))))
  else
    zbd (fX8_place S) (fun r7 S8 =>
    zbd (fX5_fail (nI 3) r7 S8) (fun r9 S10 =>
    zbo r9 (
    some (r9, S10))))

def fX8_name (S : zSt) : Option (Int64 × zSt) :=
  some ((zL S 0), S)

def fX8_value (S : zSt) : Option (Int32 × zSt) :=
  some ((zI S 13), S)

def fX5_readAtom_98 (oE : Int32 → zSt → Option (Int32 × zSt)) (S : zSt) : Option (Int32 × zSt) :=
  zbd (fX8_advance S) (fun _ S20 =>
  some ((nI 1), S20))
def fX5_readAtom (oE : Int32 → zSt → Option (Int32 × zSt)) (a1 : Int32) (S : zSt) : Option (Int32 × zSt) :=
  zbd (fX8_kind S) (fun r1 S2 =>
  if r1 = (nI 1) then
    zbd (fX8_value S2) (fun r3 S4 =>
    zbd (fX4_addDeed (nI 0) r3 S4) (fun _ S6 =>
    fX5_readAtom_98 oE S6))
  else
  if r1 = (nI 2) then
    zbd (fX8_name S2) (fun r7 S8 =>
    zbd (fX8_place S8) (fun r9 S10 =>
    zbd (fX4_addName r7 r9 S10) (fun _ S12 =>
    fX5_readAtom_98 oE S12)))
  else
  if r1 = (nI 3) then
    zbd (fX8_value S2) (fun r13 S14 =>
    zbd (fX4_addDeed (nI 1) r13 S14) (fun _ S16 =>
    fX5_readAtom_98 oE S16))
  else
  zbd (fX5_readWithin oE a1 S2) (fun r17 S18 =>
  zbo r17 (
  some (r17, S18))))

def fX5_readAtoms_50 (oE : Int32 → zSt → Option (Int32 × zSt)) (x2 : Int32) (S : zSt) : Option (Int32 × zSt) :=
  if x2 = 0 then
    zbd (fX5_cannotStand S) (fun r11 S12 =>
    zbo r11 (
    some (r11, S12)))
  else
    if x2 ≤ (nI 1) then
      some ((nI 1), S)
    else
      zbd (fX4_addDeed (nI 5) x2 S) (fun _ S10 =>
      some ((nI 1), S10))
def fX5_readAtoms_2 (oE : Int32 → zSt → Option (Int32 × zSt)) (k2 : Int32 × Int32 × zSt → Option (Int32 × zSt)) (x1 : Int32) (x2 : Int32) (S : zSt) : Option (Int32 × zSt) :=
  if (nI 10) < x2 then
    fX5_readAtoms_50 oE x2 S
  else
    zbd (fX5_beginsAtom S) (fun r1 S2 =>
    if r1 = 0 then
      fX5_readAtoms_50 oE x2 S2
    else
      if x2 = (nI 10) then
        zbd (fX8_place S2) (fun r5 S6 =>
        zbd (fX5_fail (nI 3) r5 S6) (fun r7 S8 =>
        zbo r7 (
        some (r7, S8))))
      else
        zbd (fX5_readAtom oE x1 S2) (fun r3 S4 =>
        if r3 = 0 then
          some ((nI 0), S4)
        else
          k2 (x1, (x2 + (nI 1)), S4)))
def fX5_readAtoms_2L (oE : Int32 → zSt → Option (Int32 × zSt)) (n : Nat) (a : Int32 × Int32 × zSt) : Option (Int32 × zSt) := zfix (fun k2 a => fX5_readAtoms_2 oE k2 a.1 a.2.1 a.2.2) n a
def fX5_readAtoms (oE : Int32 → zSt → Option (Int32 × zSt)) (a1 : Int32) (S : zSt) : Option (Int32 × zSt) :=
  fX5_readAtoms_2L oE zFU (a1, (nI 0), S)

def fX4_settlePointers (a1 : Int32) (a2 : Int32) (a3 : Int32) (S : zSt) : Option (Unit × zSt) :=
  zbd (fX4_isDeed a1 S) (fun r1 S2 =>
  if r1 = 0 then
    some ((), S2)
  else
    zck 800 a1 (
    zck 800 a1 (
    some ((), wA (wA S2 18 (a1.toNatClampNeg) a2) 19 (a1.toNatClampNeg) a3))))

def fX5_has_23_11 (k11 : Int32 × Int64 × Int32 × zSt → Option (Int32 × zSt)) (x2 : Int32) (x3 : Int64) (x5 : Int32) (S : zSt) : Option (Int32 × zSt) :=
  if x2 ≤ x5 then
    some ((nI 0), S)
  else
    if (nI 72) ≤ x5 then
      some ((nI 0), S)
    else
      zld 72 x5 (zB S 23) (fun v1 =>
      if (lg_cmp v1 x3) = 0 then
        some ((nI 1), S)
      else
        k11 (x2, x3, (x5 + (nI 1)), S))
def fX5_has_23_11L (n : Nat) (a : Int32 × Int64 × Int32 × zSt) : Option (Int32 × zSt) := zfix (fun k11 a => fX5_has_23_11 k11 a.1 a.2.1 a.2.2.1 a.2.2.2) n a
def fX5_has_23 (a1 : Int32) (a2 : Int32) (a3 : Int64) (S : zSt) : Option (Int32 × zSt) :=
  if 0 ≤ a1 then
    fX5_has_23_11L zFU (a2, a3, a1, S)
  else
    fX5_has_23_11L zFU (a2, a3, (nI 0), S)

def fX5_readBinding_47 (oE : Int32 → zSt → Option (Int32 × zSt)) (S : zSt) : Option (Int32 × zSt) :=
  zbd (fX8_place S) (fun r25 S26 =>
  zbd (fX5_fail (nI 3) r25 S26) (fun r27 S28 =>
  zbo r27 (
  some (r27, S28))))
def fX5_readBinding (oE : Int32 → zSt → Option (Int32 × zSt)) (a1 : Int32) (a2 : Int32) (S : zSt) : Option (Int32 × zSt) :=
  zbd (fX8_kind S) (fun r1 S2 =>
  if r1 = (nI 2) then
    if (nI 6) ≤ a2 then
      fX5_readBinding_47 oE S2
    else
      if ((a1 * (nI 6)) + a2) < 0 then
        fX5_readBinding_47 oE S2
      else
        if ((a1 * (nI 6)) + a2) < (nI 72) then
          zbd (fX8_name S2) (fun r3 S4 =>
          zbd (fX5_has_23 (a1 * (nI 6)) ((a1 * (nI 6)) + a2) r3 S4) (fun r5 S6 =>
          if r5 = 0 then
            zbd (fX8_name S6) (fun r7 S8 =>
            zck 72 ((a1 * (nI 6)) + a2) (
            zbd (fX8_advance (wB S8 23 (((a1 * (nI 6)) + a2).toNatClampNeg) r7)) (fun _ S10 =>
            zbd (fX5_take (nI 6) S10) (fun r11 S12 =>
            if r11 = 0 then
              some ((nI 0), S12)
            else
              zbd (oE (a1 + (nI 1)) S12) (fun r13 S14 =>
              if r13 = 0 then
                some ((nI 0), S14)
              else
                zbd (fX5_take (nI 7) S14) (fun r15 S16 =>
                if r15 = 0 then
                  some ((nI 0), S16)
                else
                  zbd (fX4_addDeed (nI 7) ((a1 * (nI 6)) + a2) S16) (fun _ S18 =>
                  some ((nI 1), S18))))))))
          else
            zbd (fX8_place S6) (fun r19 S20 =>
            zbd (fX5_fail (nI 4) r19 S20) (fun r21 S22 =>
            zbo r21 (
            some (r21, S22))))))
        else
          fX5_readBinding_47 oE S2
  else
    zbd (fX5_cannotStand S2) (fun r23 S24 =>
    zbo r23 (
    some (r23, S24))))

def fX5_readLet_143 (oE : Int32 → zSt → Option (Int32 × zSt)) (k143 : Int32 × Int32 × Int32 × Int32 × zSt → Option (Int32 × zSt)) (x2 : Int32) (x3 : Int32) (x4 : Int32) (x6 : Int32) (S : zSt) : Option (Int32 × zSt) :=
  if (x2 + x4) ≤ x6 then
    some ((nI 1), S)
  else
    if (nI 72) ≤ x6 then
      some ((nI 1), S)
    else
      zld 72 x6 (zB S 23) (fun v23 =>
      zbd (fX4_tell x3 v23 (nI 4) x6 S) (fun _ S25 =>
      k143 (x2, x3, x4, (x6 + (nI 1)), S25)))
def fX5_readLet_143L (oE : Int32 → zSt → Option (Int32 × zSt)) (n : Nat) (a : Int32 × Int32 × Int32 × Int32 × zSt) : Option (Int32 × zSt) := zfix (fun k143 a => fX5_readLet_143 oE k143 a.1 a.2.1 a.2.2.1 a.2.2.2.1 a.2.2.2.2) n a
def fX5_readLet_102 (oE : Int32 → zSt → Option (Int32 × zSt)) (x1 : Int32) (x2 : Int32) (x3 : Int32) (x4 : Int32) (x5 : Int32) (S : zSt) : Option (Int32 × zSt) :=
  if x5 = 0 then
    some ((nI 0), S)
  else
    zbd (fX5_take (nI 5) S) (fun r17 S18 =>
    if r17 = 0 then
      some ((nI 0), S18)
    else
      zbd (fX4_settlePointers x3 x4 x2 S18) (fun _ S20 =>
      zbd (oE (x1 + (nI 1)) S20) (fun r21 S22 =>
      if r21 = 0 then
        some ((nI 0), S22)
      else
        fX5_readLet_143L oE zFU (x2, x3, x4, x2, S22))))
def fX5_readLet_64 (oE : Int32 → zSt → Option (Int32 × zSt)) (k64 : Int32 × Int32 × Int32 × Int32 × Int32 × zSt → Option (Int32 × zSt)) (x1 : Int32) (x2 : Int32) (x3 : Int32) (x4 : Int32) (x5 : Int32) (S : zSt) : Option (Int32 × zSt) :=
  if x5 = 0 then
    fX5_readLet_102 oE x1 x2 x3 x4 x5 S
  else
    if (nI 6) < x4 then
      fX5_readLet_102 oE x1 x2 x3 x4 x5 S
    else
      zbd (fX8_kind S) (fun r13 S14 =>
      if r13 = (nI 5) then
        fX5_readLet_102 oE x1 x2 x3 x4 x5 S14
      else
        zbd (fX5_readBinding oE x1 x4 S14) (fun r15 S16 =>
        k64 (x1, x2, x3, (x4 + (nI 1)), r15, S16)))
def fX5_readLet_64L (oE : Int32 → zSt → Option (Int32 × zSt)) (n : Nat) (a : Int32 × Int32 × Int32 × Int32 × Int32 × zSt) : Option (Int32 × zSt) := zfix (fun k64 a => fX5_readLet_64 oE k64 a.1 a.2.1 a.2.2.1 a.2.2.2.1 a.2.2.2.2.1 a.2.2.2.2.2) n a
def fX5_readLet (oE : Int32 → zSt → Option (Int32 × zSt)) (a1 : Int32) (S : zSt) : Option (Int32 × zSt) :=
  if a1 < (nI 12) then
    zbd (fX8_advance S) (fun _ S2 =>
    zbd (fX4_deedCount S2) (fun r3 S4 =>
    zbd (fX4_addDeed (nI 6) (nI 0) S4) (fun _ S6 =>
    zbd (fX5_readBinding oE a1 (nI 0) S6) (fun r7 S8 =>
    fX5_readLet_64L oE zFU (a1, (a1 * (nI 6)), r3, (nI 1), r7, S8)))))
  else
    zbd (fX8_place S) (fun r9 S10 =>
    zbd (fX5_fail (nI 3) r9 S10) (fun r11 S12 =>
    zbo r11 (
    some (r11, S12))))

def fX5_readExpr (oE : Int32 → zSt → Option (Int32 × zSt)) (a1 : Int32) (S : zSt) : Option (Int32 × zSt) :=
  zbd (fX8_kind S) (fun r1 S2 =>
  if r1 = (nI 4) then
    zbd (fX5_readLet oE a1 S2) (fun r5 S6 =>
    zbo r5 (
    some (r5, S6)))
  else
    zbd (fX5_readAtoms oE a1 S2) (fun r3 S4 =>
    zbo r3 (
    some (r3, S4))))

def fX5_E : Nat → Int32 → zSt → Option (Int32 × zSt)
  | 0 => fun _ _ => none
  | d + 1 => fX5_readExpr (fX5_E d)

def fX5_has_22_11 (k11 : Int32 × Int64 × Int32 × zSt → Option (Int32 × zSt)) (x2 : Int32) (x3 : Int64) (x5 : Int32) (S : zSt) : Option (Int32 × zSt) :=
  if x2 ≤ x5 then
    some ((nI 0), S)
  else
    if (nI 8) ≤ x5 then
      some ((nI 0), S)
    else
      zld 8 x5 (zB S 22) (fun v1 =>
      if (lg_cmp v1 x3) = 0 then
        some ((nI 1), S)
      else
        k11 (x2, x3, (x5 + (nI 1)), S))
def fX5_has_22_11L (n : Nat) (a : Int32 × Int64 × Int32 × zSt) : Option (Int32 × zSt) := zfix (fun k11 a => fX5_has_22_11 k11 a.1 a.2.1 a.2.2.1 a.2.2.2) n a
def fX5_has_22 (a1 : Int32) (a2 : Int32) (a3 : Int64) (S : zSt) : Option (Int32 × zSt) :=
  if 0 ≤ a1 then
    fX5_has_22_11L zFU (a2, a3, a1, S)
  else
    fX5_has_22_11L zFU (a2, a3, (nI 0), S)

def fX5_readParameters_2 (k2 : Int32 × zSt → Option (Int32 × zSt)) (x1 : Int32) (S : zSt) : Option (Int32 × zSt) :=
  if (nI 8) < x1 then
    some (x1, S)
  else
    zbd (fX8_kind S) (fun r1 S2 =>
    if r1 = (nI 2) then
      if x1 < (nI 8) then
        zbd (fX8_name S2) (fun r3 S4 =>
        zbd (fX5_has_22 (nI 0) x1 r3 S4) (fun r5 S6 =>
        if r5 = 0 then
          zbd (fX8_name S6) (fun r7 S8 =>
          zck 8 x1 (
          zbd (fX8_advance (wB S8 22 (x1.toNatClampNeg) r7)) (fun _ S10 =>
          k2 ((x1 + (nI 1)), S10))))
        else
          zbd (fX8_place S6) (fun r11 S12 =>
          zbd (fX5_fail (nI 4) r11 S12) (fun r13 S14 =>
          some ((-1 : Int32), S14)))))
      else
        zbd (fX8_place S2) (fun r15 S16 =>
        zbd (fX5_fail (nI 3) r15 S16) (fun r17 S18 =>
        some ((-1 : Int32), S18)))
    else
      some (x1, S2))
def fX5_readParameters_2L (n : Nat) (a : Int32 × zSt) : Option (Int32 × zSt) := zfix (fun k2 a => fX5_readParameters_2 k2 a.1 a.2) n a
def fX5_readParameters (S : zSt) : Option (Int32 × zSt) :=
  fX5_readParameters_2L zFU ((nI 0), S)

def fX5_readDefinition_177 (x2 : Int32) (S : zSt) : Option (Int32 × zSt) :=
  zbd (fX4_closeDefinition x2 S) (fun _ S39 =>
  some ((nI 1), S39))
def fX5_readDefinition_141 (k141 : Int32 × Int32 × Int32 × zSt → Option (Int32 × zSt)) (x1 : Int32) (x2 : Int32) (x3 : Int32) (S : zSt) : Option (Int32 × zSt) :=
  if x2 ≤ x3 then
    fX5_readDefinition_177 x2 S
  else
    if (nI 8) ≤ x3 then
      fX5_readDefinition_177 x2 S
    else
      zld 8 x3 (zB S 22) (fun v35 =>
      zbd (fX4_tell x1 v35 (nI 3) x3 S) (fun _ S37 =>
      k141 (x1, x2, (x3 + (nI 1)), S37)))
def fX5_readDefinition_141L (n : Nat) (a : Int32 × Int32 × Int32 × zSt) : Option (Int32 × zSt) := zfix (fun k141 a => fX5_readDefinition_141 k141 a.1 a.2.1 a.2.2.1 a.2.2.2) n a
def fX5_readDefinition (S : zSt) : Option (Int32 × zSt) :=
  zbd (fX8_kind S) (fun r1 S2 =>
  if r1 = (nI 2) then
    zbd (fX4_size S2) (fun r3 S4 =>
    if r3 = (nI 20) then
      zbd (fX8_place S4) (fun r29 S30 =>
      zbd (fX5_fail (nI 3) r29 S30) (fun r31 S32 =>
      zbo r31 (
      some (r31, S32))))
    else
      zbd (fX8_name S4) (fun r5 S6 =>
      zbd (fX4_definitionOf r5 S6) (fun r7 S8 =>
      if r7 = (-1 : Int32) then
        zbd (fX8_name S8) (fun r9 S10 =>
        zbd (fX4_openDefinition r9 S10) (fun _ S12 =>
        zbd (fX8_advance S12) (fun _ S14 =>
        zbd (fX4_deedCount S14) (fun r15 S16 =>
        zbd (fX5_readParameters S16) (fun r17 S18 =>
        if r17 = (-1 : Int32) then
          some ((nI 0), S18)
        else
          zbd (fX5_take (nI 6) S18) (fun r19 S20 =>
          if r19 = 0 then
            some ((nI 0), S20)
          else
            zbd (fX5_E 20 (nI 0) S20) (fun r21 S22 =>
            if r21 = 0 then
              some ((nI 0), S22)
            else
              zbd (fX5_take (nI 7) S22) (fun r23 S24 =>
              if r23 = 0 then
                some ((nI 0), S24)
              else
                fX5_readDefinition_141L zFU (r15, r17, (nI 0), S24)))))))))
      else
        zbd (fX8_place S8) (fun r25 S26 =>
        zbd (fX5_fail (nI 4) r25 S26) (fun r27 S28 =>
        zbo r27 (
        some (r27, S28)))))))
  else
    zbd (fX5_cannotStand S2) (fun r33 S34 =>
    zbo r33 (
    some (r33, S34))))

def fX8_begin (S : zSt) : Option (Unit × zSt) :=
  zbd (fX8_advance (wI S 10 (nI 0))) (fun _ S2 =>
  some ((), S2))

def fX5_readProgram_62 (x1 : Int32) (S : zSt) : Option (Unit × zSt) :=
  if x1 = 0 then
    some ((), S)
  else
    zbd (fX5_checkNames S) (fun _ S12 =>
    some ((), S12))
def fX5_readProgram_31 (k31 : Int32 × Int32 × zSt → Option (Unit × zSt)) (x1 : Int32) (x2 : Int32) (S : zSt) : Option (Unit × zSt) :=
  if x1 = 0 then
    fX5_readProgram_62 x1 S
  else
    if (nI 20) < x2 then
      fX5_readProgram_62 x1 S
    else
      zbd (fX8_kind S) (fun r7 S8 =>
      if r7 = 0 then
        fX5_readProgram_62 x1 S8
      else
        zbd (fX5_readDefinition S8) (fun r9 S10 =>
        k31 (r9, (x2 + (nI 1)), S10)))
def fX5_readProgram_31L (n : Nat) (a : Int32 × Int32 × zSt) : Option (Unit × zSt) := zfix (fun k31 a => fX5_readProgram_31 k31 a.1 a.2.1 a.2.2) n a
def fX5_readProgram (S : zSt) : Option (Unit × zSt) :=
  zbd (fX4_clear (wI (wI S 8 (nI 0)) 9 (nI 0))) (fun _ S2 =>
  zbd (fX8_begin S2) (fun _ S4 =>
  zbd (fX5_readDefinition S4) (fun r5 S6 =>
  fX5_readProgram_31L zFU (r5, (nI 1), S6))))

def fX2_stepsDone (S : zSt) : Option (Int32 × zSt) :=
  some ((zI S 21), S)

def fX9_forgetSweeps_2 (k2 : Int32 × zSt → Option (Unit × zSt)) (x2 : Int32) (S : zSt) : Option (Unit × zSt) :=
  if x2 < 0 then
    some ((), S)
  else
    zbd (fX2_stepsDone S) (fun r1 S2 =>
    if r1 < x2 then
      some ((), S2)
    else
      if (nI 5001) ≤ x2 then
        some ((), S2)
      else
        zck 5001 x2 (
        k2 ((x2 + (nI 1)), wA S2 10 (x2.toNatClampNeg) (vp_nar .boolean (nI 0)))))
def fX9_forgetSweeps_2L (n : Nat) (a : Int32 × zSt) : Option (Unit × zSt) := zfix (fun k2 a => fX9_forgetSweeps_2 k2 a.1 a.2) n a
def fX9_forgetSweeps (a1 : Int32) (S : zSt) : Option (Unit × zSt) :=
  fX9_forgetSweeps_2L zFU (a1, S)

def fX9_goOn (S : zSt) : Option (Unit × zSt) :=
  some ((), wI (wI S 2 (nI 0)) 3 (nI 0))

def fX9_read_40 (y0 : Int32) (S : zSt) : Option (Int32 × zSt) :=
  zbo y0 (
  if y0 = 0 then
    zbd (fX5_faultPlace (wI S 0 y0)) (fun r15 S16 =>
    some (((-10 : Int32) - r15), S16))
  else
    zbd (fX9_forgetSweeps (nI 0) (wI S 0 y0)) (fun _ S8 =>
    zbd (fX2_begin S8) (fun _ S10 =>
    zbd (fX9_goOn S10) (fun _ S12 =>
    zbd (fX4_size (wI S12 4 (-1 : Int32))) (fun r13 S14 =>
    some (r13, S14))))))
def fX9_read (S : zSt) : Option (Int32 × zSt) :=
  zbd (fX5_readProgram S) (fun _ S2 =>
  zbd (fX7_keepFirst (nI 0) S2) (fun r3 S4 =>
  zbd (fX5_faultFound S4) (fun r5 S6 =>
  if r5 = 0 then
    fX9_read_40 (nI 1) (wI S6 1 r5)
  else
    fX9_read_40 (nI 0) (wI S6 1 r5))))

def fX9_fault (S : zSt) : Option (Int32 × zSt) :=
  some ((zI S 1), S)

def fX0_firstOf (a1 : Int32) (S : zSt) : Option (Int32 × zSt) :=
  if a1 < 0 then
    some ((-1 : Int32), S)
  else
    if (nI 400) ≤ a1 then
      some ((-1 : Int32), S)
    else
      zld 400 a1 (zA S 26) (fun v1 =>
      some (v1, S))

def fX0_hasRoom (a1 : Int32) (S : zSt) : Option (Int32 × zSt) :=
  if (nI 400) < ((zI S 14) + a1) then
    some ((nI 0), S)
  else
    some ((nI 1), S)

def fX4_nodesOf (a1 : Int32) (S : zSt) : Option (Int32 × zSt) :=
  zbd (fX4_isDefinition a1 S) (fun r1 S2 =>
  if r1 = 0 then
    some ((nI 0), S2)
  else
    zld 20 a1 (zA S2 16) (fun v3 =>
    some (v3, S2)))

def fX6_at (a1 : Int32) (S : zSt) : Option (Int32 × zSt) :=
  if a1 < 0 then
    some ((-1 : Int32), S)
  else
    if (zI S 19) ≤ a1 then
      some ((-1 : Int32), S)
    else
      if (nI 600) ≤ a1 then
        some ((-1 : Int32), S)
      else
        zld 600 a1 (zA S 29) (fun v1 =>
        some (v1, S))

def fX6_beginOf (a1 : Int32) (S : zSt) : Option (Int32 × zSt) :=
  if a1 < 0 then
    some ((nI 0), S)
  else
    if (nI 600) ≤ a1 then
      some ((nI 0), S)
    else
      zld 600 a1 (zA S 30) (fun v1 =>
      some (v1, S))

def fX6_height (S : zSt) : Option (Int32 × zSt) :=
  zbd (fX6_beginOf (zI S 20) S) (fun r1 S2 =>
  some (((zI S 19) - r1), S2))

def fX6_fromTop (a1 : Int32) (S : zSt) : Option (Int32 × zSt) :=
  if a1 < 0 then
    some ((-1 : Int32), S)
  else
    zbd (fX6_height S) (fun r1 S2 =>
    if r1 ≤ a1 then
      some ((-1 : Int32), S2)
    else
      zbd (fX6_at (((zI S2 19) - (nI 1)) - a1) S2) (fun r3 S4 =>
      some (r3, S4)))

def fX6_hasRoom (S : zSt) : Option (Int32 × zSt) :=
  if (nI 600) ≤ (zI S 19) then
    some ((nI 0), S)
  else
    some ((nI 1), S)

def fX2_hasRoomFor (a1 : Int32) (S : zSt) : Option (Int32 × zSt) :=
  if a1 = (nI 1) then
    zbd (fX6_hasRoom S) (fun r1 S2 =>
    zbo r1 (
    some (r1, S2)))
  else
  if a1 = (nI 2) then
    zbd (fX6_fromTop (nI 0) S) (fun r3 S4 =>
    zbd (fX0_firstOf r3 S4) (fun r5 S6 =>
    zbd (fX4_nodesOf r5 S6) (fun r7 S8 =>
    zbd (fX0_hasRoom r7 S8) (fun r9 S10 =>
    zbo r9 (
    some (r9, S10))))))
  else
  if a1 = (nI 3) then
    zbd (fX6_hasRoom S) (fun r11 S12 =>
    zbo r11 (
    some (r11, S12)))
  else
  some ((nI 1), S)

def fX0_kindOf (a1 : Int32) (S : zSt) : Option (Int32 × zSt) :=
  if a1 < 0 then
    some ((-1 : Int32), S)
  else
    if (nI 400) ≤ a1 then
      some ((-1 : Int32), S)
    else
      zld 400 a1 (zA S 25) (fun v1 =>
      some (v1, S))

def fX2_failing (a1 : Int32) (S : zSt) : Option (Int32 × zSt) :=
  some ((nI 7), wI S 22 a1)

def fX0_followed_4 (k4 : Int32 × Int32 × zSt → Option (Int32 × zSt)) (x2 : Int32) (x3 : Int32) (S : zSt) : Option (Int32 × zSt) :=
  if (nI 400) < x3 then
    some ((-1 : Int32), S)
  else
    zbd (fX0_kindOf x2 S) (fun r1 S2 =>
    if r1 = (nI 6) then
      zbd (fX0_firstOf x2 S2) (fun r3 S4 =>
      k4 (r3, (x3 + (nI 1)), S4))
    else
      some (x2, S2))
def fX0_followed_4L (n : Nat) (a : Int32 × Int32 × zSt) : Option (Int32 × zSt) := zfix (fun k4 a => fX0_followed_4 k4 a.1 a.2.1 a.2.2) n a
def fX0_followed (a1 : Int32) (S : zSt) : Option (Int32 × zSt) :=
  fX0_followed_4L zFU (a1, (nI 0), S)

def fX2_isOfSort (a0 : Int32) (a1 : Int32) (S : zSt) : Option (Int32 × zSt) :=
  if a0 = (nI 9) then
    if a1 = (nI 4) then
      some ((nI 1), S)
    else
      if a1 = (nI 5) then
        some ((nI 1), S)
      else
        some ((nI 0), S)
  else
  if a0 = (nI 10) then
    if a1 = (nI 4) then
      some ((nI 1), S)
    else
      if a1 = (nI 5) then
        some ((nI 1), S)
      else
        some ((nI 0), S)
  else
  if a0 = (nI 11) then
    if a1 = (nI 4) then
      some ((nI 1), S)
    else
      if a1 = (nI 5) then
        some ((nI 1), S)
      else
        some ((nI 0), S)
  else
  if a0 = (nI 12) then
    some ((nI 1), S)
  else
  if a1 = 0 then
    some ((nI 1), S)
  else
    some ((nI 0), S)

def fX2_needsOf (a0 : Int32) (S : zSt) : Option (Int32 × zSt) :=
  if a0 < 0 then
    some ((nI 0), S)
  else
    if (nI 13) ≤ a0 then
      some ((nI 0), S)
    else
      zld 13 a0 zneeds (fun v1 =>
      some (v1, S))

def fX2_isValue_44 (x2 : Int32) (x3 : Int32) (S : zSt) : Option (Int32 × zSt) :=
  zbd (fX0_kindOf x2 S) (fun r7 S8 =>
  if r7 = (nI 0) then
    if x3 = 0 then
      some ((nI 1), S8)
    else
      some ((nI 0), S8)
  else
  if r7 = (nI 2) then
    zbd (fX0_firstOf x2 S8) (fun r9 S10 =>
    zbd (fX4_parametersOf r9 S10) (fun r11 S12 =>
    if r11 ≤ x3 then
      some ((nI 0), S12)
    else
      some ((nI 1), S12)))
  else
  if r7 = (nI 3) then
    zbd (fX0_firstOf x2 S8) (fun r13 S14 =>
    zbd (fX2_needsOf r13 S14) (fun r15 S16 =>
    if r15 ≤ x3 then
      some ((nI 0), S16)
    else
      some ((nI 1), S16)))
  else
  if r7 = (nI 4) then
    if x3 = 0 then
      some ((nI 1), S8)
    else
      some ((nI 0), S8)
  else
  if r7 = (nI 5) then
    if x3 = 0 then
      some ((nI 1), S8)
    else
      some ((nI 0), S8)
  else
  some ((nI 0), S8))
def fX2_isValue_4 (k4 : Int32 × Int32 × zSt → Option (Int32 × zSt)) (x2 : Int32) (x3 : Int32) (S : zSt) : Option (Int32 × zSt) :=
  if (nI 8) < x3 then
    fX2_isValue_44 x2 x3 S
  else
    zbd (fX0_kindOf x2 S) (fun r1 S2 =>
    if r1 = (nI 1) then
      zbd (fX0_firstOf x2 S2) (fun r3 S4 =>
      zbd (fX0_followed r3 S4) (fun r5 S6 =>
      k4 (r5, (x3 + (nI 1)), S6)))
    else
      fX2_isValue_44 x2 x3 S2)
def fX2_isValue_4L (n : Nat) (a : Int32 × Int32 × zSt) : Option (Int32 × zSt) := zfix (fun k4 a => fX2_isValue_4 k4 a.1 a.2.1 a.2.2) n a
def fX2_isValue (a1 : Int32) (S : zSt) : Option (Int32 × zSt) :=
  fX2_isValue_4L zFU (a1, (nI 0), S)

def fX2_isNil (a1 : Int32) (S : zSt) : Option (Int32 × zSt) :=
  zbd (fX0_kindOf a1 S) (fun r1 S2 =>
  if r1 = (nI 5) then
    some ((nI 1), S2)
  else
    some ((nI 0), S2))

def fX2_lookAtValues_42 (y0 : Int32) (S : zSt) : Option (Int32 × zSt) :=
  if y0 = 0 then
    some ((nI 4), S)
  else
    zbd (fX2_isNil (zI S 24) S) (fun r5 S6 =>
    if r5 = 0 then
      some ((nI 4), S6)
    else
      zbd (fX2_failing (nI 4) S6) (fun r7 S8 =>
      some (r7, S8)))
def fX2_lookAtValues_37 (S : zSt) : Option (Int32 × zSt) :=
  fX2_lookAtValues_42 (nI 1) S
def fX2_lookAtValues_25 (x1 : Int32) (S : zSt) : Option (Int32 × zSt) :=
  if x1 = (nI 9) then
    fX2_lookAtValues_37 S
  else
    if x1 = (nI 10) then
      fX2_lookAtValues_37 S
    else
      fX2_lookAtValues_42 (nI 0) S
def fX2_lookAtValues (a1 : Int32) (S : zSt) : Option (Int32 × zSt) :=
  if a1 = (nI 3) then
    zbd (fX0_firstOf (zI S 25) S) (fun r1 S2 =>
    if r1 = 0 then
      zbd (fX2_failing (nI 3) S2) (fun r3 S4 =>
      some (r3, S4))
    else
      fX2_lookAtValues_25 a1 S2)
  else
    fX2_lookAtValues_25 a1 S

def fX0_secondOf (a1 : Int32) (S : zSt) : Option (Int32 × zSt) :=
  if a1 < 0 then
    some ((-3 : Int32), S)
  else
    if (nI 400) ≤ a1 then
      some ((-3 : Int32), S)
    else
      zld 400 a1 (zA S 27) (fun v1 =>
      some (v1, S))

def fX2_secondBelow (a1 : Int32) (S : zSt) : Option (Int32 × zSt) :=
  zbd (fX6_fromTop a1 S) (fun r1 S2 =>
  zbd (fX0_secondOf r1 S2) (fun r3 S4 =>
  some (r3, S4)))

def fX2_wantsOf (a0 : Int32) (S : zSt) : Option (Int32 × zSt) :=
  if a0 < 0 then
    some ((nI 0), S)
  else
    if (nI 13) ≤ a0 then
      some ((nI 0), S)
    else
      zld 13 a0 zwants (fun v1 =>
      some (v1, S))

def fX6_hasAsLowest_2 (k2 : Int32 × Int32 × zSt → Option (Int32 × zSt)) (x1 : Int32) (x2 : Int32) (S : zSt) : Option (Int32 × zSt) :=
  if (zI S 20) < x2 then
    some ((nI 0), S)
  else
    zbd (fX6_beginOf x2 S) (fun r1 S2 =>
    zbd (fX6_at r1 S2) (fun r3 S4 =>
    if r3 = x1 then
      some ((nI 1), S4)
    else
      k2 (x1, (x2 + (nI 1)), S4)))
def fX6_hasAsLowest_2L (n : Nat) (a : Int32 × Int32 × zSt) : Option (Int32 × zSt) := zfix (fun k2 a => fX6_hasAsLowest_2 k2 a.1 a.2.1 a.2.2) n a
def fX6_hasAsLowest (a1 : Int32) (S : zSt) : Option (Int32 × zSt) :=
  fX6_hasAsLowest_2L zFU (a1, (nI 0), S)

def fX2_lookAtThings_7 (k7 : Int32 × Int32 × Int32 × zSt → Option (Int32 × zSt)) (x1 : Int32) (x2 : Int32) (x3 : Int32) (S : zSt) : Option (Int32 × zSt) :=
  if x2 < x3 then
    zbd (fX2_lookAtValues x1 S) (fun r3 S4 =>
    some (r3, S4))
  else
    zbd (fX2_secondBelow x3 S) (fun r5 S6 =>
    zbd (fX0_followed r5 S6) (fun r7 S8 =>
    if r7 = (-1 : Int32) then
      zbd (fX2_failing (nI 5) S8) (fun r21 S22 =>
      some (r21, S22))
    else
      zbd (fX2_isValue r7 S8) (fun r9 S10 =>
      if r9 = 0 then
        zbd (fX6_hasAsLowest r7 (wI S10 23 r7)) (fun r17 S18 =>
        if r17 = 0 then
          some ((nI 3), S18)
        else
          zbd (fX2_failing (nI 5) S18) (fun r19 S20 =>
          some (r19, S20)))
      else
        zbd (fX0_kindOf r7 S10) (fun r11 S12 =>
        zbd (fX2_isOfSort x1 r11 S12) (fun r13 S14 =>
        if r13 = 0 then
          zbd (fX2_failing (nI 2) S14) (fun r15 S16 =>
          some (r15, S16))
        else
          if x3 = (nI 1) then
            k7 (x1, x2, (x3 + (nI 1)), wI S14 24 r7)
          else
            k7 (x1, x2, (x3 + (nI 1)), wI S14 25 r7))))))
def fX2_lookAtThings_7L (n : Nat) (a : Int32 × Int32 × Int32 × zSt) : Option (Int32 × zSt) := zfix (fun k7 a => fX2_lookAtThings_7 k7 a.1 a.2.1 a.2.2.1 a.2.2.2) n a
def fX2_lookAtThings (a1 : Int32) (S : zSt) : Option (Int32 × zSt) :=
  zbd (fX2_wantsOf a1 S) (fun r1 S2 =>
  fX2_lookAtThings_7L zFU (a1, r1, (nI 1), S2))

def fX6_dumped (S : zSt) : Option (Int32 × zSt) :=
  some ((zI S 20), S)

def fX2_valueOnTop (S : zSt) : Option (Int32 × zSt) :=
  zbd (fX6_dumped S) (fun r1 S2 =>
  if r1 ≤ 0 then
    some ((nI 6), S2)
  else
    some ((nI 5), S2))

def fX2_look (S : zSt) : Option (Int32 × zSt) :=
  zbd (fX6_fromTop (nI 0) (wI S 22 (nI 0))) (fun r1 S2 =>
  zbd (fX0_firstOf r1 S2) (fun r3 S4 =>
  zbd (fX6_height S4) (fun r5 S6 =>
  zbd (fX0_kindOf r1 S6) (fun r7 S8 =>
  if r7 = (nI 1) then
    some ((nI 1), S8)
  else
  if r7 = (nI 2) then
    zbd (fX4_parametersOf r3 S8) (fun r9 S10 =>
    if (r5 - (nI 1)) < r9 then
      zbd (fX2_valueOnTop S10) (fun r11 S12 =>
      some (r11, S12))
    else
      some ((nI 2), S10))
  else
  if r7 = (nI 3) then
    zbd (fX2_needsOf r3 S8) (fun r13 S14 =>
    if (r5 - (nI 1)) < r13 then
      zbd (fX2_valueOnTop S14) (fun r15 S16 =>
      some (r15, S16))
    else
      zbd (fX2_lookAtThings r3 S14) (fun r17 S18 =>
      some (r17, S18)))
  else
  if r7 = (nI 6) then
    some ((nI 0), S8)
  else
  if (r5 - (nI 1)) = 0 then
    zbd (fX2_valueOnTop S8) (fun r29 S30 =>
    some (r29, S30))
  else
    zbd (fX2_failing (nI 1) S8) (fun r27 S28 =>
    some (r27, S28))))))

def fX0_become (a1 : Int32) (a2 : Int32) (a3 : Int32) (a4 : Int32) (S : zSt) : Option (Unit × zSt) :=
  if a1 < 0 then
    some ((), S)
  else
    if (nI 400) ≤ a1 then
      some ((), S)
    else
      zck 400 a1 (
      zck 400 a1 (
      zck 400 a1 (
      some ((), wA (wA (wA S 25 (a1.toNatClampNeg) a2) 26 (a1.toNatClampNeg) a3) 27 (a1.toNatClampNeg) a4))))

def fX3_give (a1 : Int32) (a2 : Int32) (S : zSt) : Option (Unit × zSt) :=
  if a1 < 0 then
    some ((), S)
  else
    if (nI 8) ≤ a1 then
      some ((), S)
    else
      zck 8 a1 (
      some ((), wA S 33 (a1.toNatClampNeg) a2))

def fX0_workFor (a1 : Int32) (S : zSt) : Option (Unit × zSt) :=
  some ((), wI S 18 a1)

def fX3_addPointers_2 (k2 : Int32 × Int32 × Int32 × zSt → Option (Unit × zSt)) (x1 : Int32) (x2 : Int32) (x3 : Int32) (S : zSt) : Option (Unit × zSt) :=
  if x2 ≤ x3 then
    some ((), S)
  else
    if (x1 + x3) < 0 then
      k2 (x1, x2, (x3 + (nI 1)), S)
    else
      if (nI 72) ≤ (x1 + x3) then
        k2 (x1, x2, (x3 + (nI 1)), S)
      else
        zbd (fX0_add (nI 6) (nI 0) (-3 : Int32) S) (fun r1 S2 =>
        zbd (fX0_become r1 (nI 6) r1 (-3 : Int32) S2) (fun _ S4 =>
        zck 72 (x1 + x3) (
        k2 (x1, x2, (x3 + (nI 1)), wA S4 34 ((x1 + x3).toNatClampNeg) r1))))
def fX3_addPointers_2L (n : Nat) (a : Int32 × Int32 × Int32 × zSt) : Option (Unit × zSt) := zfix (fun k2 a => fX3_addPointers_2 k2 a.1 a.2.1 a.2.2.1 a.2.2.2) n a
def fX3_addPointers (a1 : Int32) (a2 : Int32) (S : zSt) : Option (Unit × zSt) :=
  fX3_addPointers_2L zFU (a1, a2, (nI 0), S)

def fX3_letWait (a1 : Int32) (S : zSt) : Option (Unit × zSt) :=
  if (zI S 26) < 0 then
    some ((), S)
  else
    if (nI 130) ≤ (zI S 26) then
      some ((), S)
    else
      zck 130 (zI S 26) (
      some ((), wI (wA S 35 ((zI S 26).toNatClampNeg) a1) 26 ((zI S 26) + (nI 1))))

def fX3_applyWaiting_75 (x2 : Int32) (x3 : Int32) (S : zSt) : Option (Unit × zSt) :=
  zbd (fX3_letWait x3 (wI S 26 x2)) (fun _ S6 =>
  some ((), S6))
def fX3_applyWaiting_33 (k33 : Int32 × Int32 × Int32 × zSt → Option (Unit × zSt)) (x2 : Int32) (x3 : Int32) (x4 : Int32) (S : zSt) : Option (Unit × zSt) :=
  if (zI S 26) ≤ x4 then
    fX3_applyWaiting_75 x2 x3 S
  else
    if (nI 130) ≤ x4 then
      fX3_applyWaiting_75 x2 x3 S
    else
      zld 130 x4 (zA S 35) (fun v2 =>
      zbd (fX0_add (nI 1) x3 v2 S) (fun r3 S4 =>
      k33 (x2, r3, (x4 + (nI 1)), S4)))
def fX3_applyWaiting_33L (n : Nat) (a : Int32 × Int32 × Int32 × zSt) : Option (Unit × zSt) := zfix (fun k33 a => fX3_applyWaiting_33 k33 a.1 a.2.1 a.2.2.1 a.2.2.2) n a
def fX3_applyWaiting (a1 : Int32) (S : zSt) : Option (Unit × zSt) :=
  if ((zI S 26) - a1) < 0 then
    some ((), S)
  else
    if ((zI S 26) - a1) < (nI 130) then
      zld 130 ((zI S 26) - a1) (zA S 35) (fun v1 =>
      fX3_applyWaiting_33L zFU (((zI S 26) - a1), v1, (((zI S 26) - a1) + (nI 1)), S))
    else
      some ((), S)

def fX3_bind (a1 : Int32) (a2 : Int32) (S : zSt) : Option (Unit × zSt) :=
  if a1 < 0 then
    some ((), S)
  else
    if (nI 72) ≤ a1 then
      some ((), S)
    else
      zld 72 a1 (zA S 34) (fun v1 =>
      zbd (fX0_become v1 (nI 6) a2 (-3 : Int32) S) (fun _ S3 =>
      some ((), S3)))

def fX3_takeWaiting (S : zSt) : Option (Int32 × zSt) :=
  if (zI S 26) < (nI 1) then
    some ((-1 : Int32), S)
  else
    if (zI S 26) ≤ (nI 130) then
      zld 130 ((zI S 26) - (nI 1)) (zA S 35) (fun v1 =>
      some (v1, wI S 26 ((zI S 26) - (nI 1))))
    else
      some ((-1 : Int32), S)

def fX4_firstSlotAt (a1 : Int32) (S : zSt) : Option (Int32 × zSt) :=
  zbd (fX4_isDeed a1 S) (fun r1 S2 =>
  if r1 = 0 then
    some ((nI 0), S2)
  else
    zld 800 a1 (zA S2 19) (fun v3 =>
    some (v3, S2)))

def fX3_doDeed_106 (y0 : Int32) (S : zSt) : Option (Unit × zSt) :=
  zbd (fX3_letWait y0 S) (fun _ S30 =>
  some ((), S30))
def fX3_doDeed_144 (y0 : Int32) (S : zSt) : Option (Unit × zSt) :=
  zbd (fX3_letWait y0 S) (fun _ S28 =>
  some ((), S28))
def fX3_doDeed_143 (S : zSt) : Option (Unit × zSt) :=
  fX3_doDeed_144 (-1 : Int32) S
def fX3_doDeed_174 (y0 : Int32) (S : zSt) : Option (Unit × zSt) :=
  zbd (fX3_letWait y0 S) (fun _ S26 =>
  some ((), S26))
def fX3_doDeed_173 (S : zSt) : Option (Unit × zSt) :=
  fX3_doDeed_174 (-1 : Int32) S
def fX3_doDeed (a1 : Int32) (a2 : Int32) (S : zSt) : Option (Unit × zSt) :=
  zbd (fX4_deedAt a1 S) (fun r1 S2 =>
  if r1 = (nI 0) then
    zbd (fX0_add (nI 0) a2 (-3 : Int32) S2) (fun r3 S4 =>
    zbd (fX3_letWait r3 S4) (fun _ S6 =>
    some ((), S6)))
  else
  if r1 = (nI 1) then
    if a2 = (nI 8) then
      zbd (fX0_add (nI 5) (nI 0) (-3 : Int32) S2) (fun r9 S10 =>
      fX3_doDeed_106 r9 S10)
    else
      zbd (fX0_add (nI 3) a2 (-3 : Int32) S2) (fun r7 S8 =>
      fX3_doDeed_106 r7 S8)
  else
  if r1 = (nI 2) then
    zbd (fX3_letWait a2 S2) (fun _ S12 =>
    some ((), S12))
  else
  if r1 = (nI 3) then
    if a2 < 0 then
      fX3_doDeed_143 S2
    else
      if (nI 8) ≤ a2 then
        fX3_doDeed_143 S2
      else
        zld 8 a2 (zA S2 33) (fun v13 =>
        fX3_doDeed_144 v13 S2)
  else
  if r1 = (nI 4) then
    if a2 < 0 then
      fX3_doDeed_173 S2
    else
      if (nI 72) ≤ a2 then
        fX3_doDeed_173 S2
      else
        zld 72 a2 (zA S2 34) (fun v14 =>
        fX3_doDeed_174 v14 S2)
  else
  if r1 = (nI 5) then
    zbd (fX3_applyWaiting a2 S2) (fun _ S16 =>
    some ((), S16))
  else
  if r1 = (nI 6) then
    zbd (fX4_firstSlotAt a1 S2) (fun r17 S18 =>
    zbd (fX3_addPointers r17 a2 S18) (fun _ S20 =>
    some ((), S20)))
  else
  if r1 = (nI 7) then
    zbd (fX3_takeWaiting S2) (fun r21 S22 =>
    zbd (fX3_bind a2 r21 S22) (fun _ S24 =>
    some ((), S24)))
  else
  some ((), S2))

def fX4_beginOf (a1 : Int32) (S : zSt) : Option (Int32 × zSt) :=
  zbd (fX4_isDefinition a1 S) (fun r1 S2 =>
  if r1 = 0 then
    some ((nI 0), S2)
  else
    zld 20 a1 (zA S2 14) (fun v3 =>
    some (v3, S2)))

def fX4_endOf (a1 : Int32) (S : zSt) : Option (Int32 × zSt) :=
  zbd (fX4_isDefinition a1 S) (fun r1 S2 =>
  if r1 = 0 then
    some ((nI 0), S2)
  else
    zld 20 a1 (zA S2 15) (fun v3 =>
    some (v3, S2)))

def fX3_make_31 (k31 : Int32 × Int32 × zSt → Option (Int32 × zSt)) (x2 : Int32) (x3 : Int32) (S : zSt) : Option (Int32 × zSt) :=
  if x2 ≤ x3 then
    zbd (fX3_takeWaiting S) (fun r7 S8 =>
    some (r7, S8))
  else
    zbd (fX4_aboutAt x3 S) (fun r9 S10 =>
    zbd (fX3_doDeed x3 r9 S10) (fun _ S12 =>
    k31 (x2, (x3 + (nI 1)), S12)))
def fX3_make_31L (n : Nat) (a : Int32 × Int32 × zSt) : Option (Int32 × zSt) := zfix (fun k31 a => fX3_make_31 k31 a.1 a.2.1 a.2.2) n a
def fX3_make (a1 : Int32) (S : zSt) : Option (Int32 × zSt) :=
  zbd (fX0_workFor a1 (wI S 26 (nI 0))) (fun _ S2 =>
  zbd (fX4_endOf a1 S2) (fun r3 S4 =>
  zbd (fX4_beginOf a1 S4) (fun r5 S6 =>
  fX3_make_31L zFU (r3, r5, S6))))

def fX6_pop (a1 : Int32) (S : zSt) : Option (Unit × zSt) :=
  zbd (fX6_height S) (fun r1 S2 =>
  if r1 ≤ a1 then
    zbd (fX6_height S2) (fun r3 S4 =>
    some ((), wI S4 19 ((zI S 19) - r3)))
  else
    some ((), wI S2 19 ((zI S 19) - a1)))

def fX2_makeFunction_11 (k11 : Int32 × Int32 × Int32 × zSt → Option (Unit × zSt)) (x1 : Int32) (x2 : Int32) (x3 : Int32) (S : zSt) : Option (Unit × zSt) :=
  if x2 < x3 then
    zbd (fX6_fromTop x2 S) (fun r3 S4 =>
    zbd (fX3_make x1 S4) (fun r5 S6 =>
    zbd (fX0_become r3 (nI 6) r5 (-3 : Int32) S6) (fun _ S8 =>
    zbd (fX6_pop (x2 + (nI 1)) S8) (fun _ S10 =>
    zbd (fX6_push r5 S10) (fun _ S12 =>
    if x1 < 0 then
      some ((), S12)
    else
      if (nI 20) ≤ x1 then
        some ((), S12)
      else
        zld 20 x1 (zA S12 31) (fun v13 =>
        zck 20 x1 (
        zld 20 x1 (zA S12 32) (fun v14 =>
        zbd (fX4_nodesOf x1 (wA S12 31 (x1.toNatClampNeg) (v13 + (nI 1)))) (fun r15 S16 =>
        zck 20 x1 (
        some ((), wA S16 32 (x1.toNatClampNeg) (v14 + r15))))))))))))
  else
    zbd (fX2_secondBelow x3 S) (fun r17 S18 =>
    zbd (fX3_give (x3 - (nI 1)) r17 S18) (fun _ S20 =>
    k11 (x1, x2, (x3 + (nI 1)), S20)))
def fX2_makeFunction_11L (n : Nat) (a : Int32 × Int32 × Int32 × zSt) : Option (Unit × zSt) := zfix (fun k11 a => fX2_makeFunction_11 k11 a.1 a.2.1 a.2.2.1 a.2.2.2) n a
def fX2_makeFunction (a1 : Int32) (S : zSt) : Option (Unit × zSt) :=
  zbd (fX4_parametersOf a1 S) (fun r1 S2 =>
  fX2_makeFunction_11L zFU (a1, r1, (nI 1), S2))

def fX2_calculate (a0 : Int32) (a1 : Int32) (a2 : Int32) (S : zSt) : Option (Int32 × zSt) :=
  if a0 = (nI 0) then
    some ((a1 + a2), S)
  else
  if a0 = (nI 1) then
    some ((a1 - a2), S)
  else
  if a0 = (nI 2) then
    some ((a1 * a2), S)
  else
  if a0 = (nI 3) then
    if a2 = 0 then
      some ((nI 0), S)
    else
      zdv a2 (
      some ((a1 / a2), S))
  else
  if a0 = (nI 4) then
    if a2 ≤ a1 then
      some ((nI 0), S)
    else
      some ((nI 1), S)
  else
  if a0 = (nI 5) then
    if a1 = a2 then
      some ((nI 1), S)
    else
      some ((nI 0), S)
  else
  some ((nI 0), S)

def fX2_workOut_225 (x1 : Int32) (x2 : Int32) (S : zSt) : Option (Unit × zSt) :=
  zbd (fX2_needsOf x1 S) (fun r35 S36 =>
  zbd (fX6_pop (r35 + (nI 1)) S36) (fun _ S38 =>
  zbd (fX6_push x2 S38) (fun _ S40 =>
  some ((), S40))))
def fX2_workOut_73 (x1 : Int32) (x2 : Int32) (y0 : Int32) (y2 : Int32) (y3 : Int32) (S : zSt) : Option (Unit × zSt) :=
  zbd (fX2_secondBelow y0 S) (fun r41 S42 =>
  zbd (fX0_become y3 y2 r41 (-3 : Int32) S42) (fun _ S44 =>
  fX2_workOut_225 x1 x2 S44))
def fX2_workOut_190 (x1 : Int32) (x2 : Int32) (y0 : Int32) (y1 : Int32) (y2 : Int32) (S : zSt) : Option (Unit × zSt) :=
  zbd (fX0_become y2 y1 y0 (-3 : Int32) S) (fun _ S34 =>
  fX2_workOut_225 x1 x2 S34)
def fX2_workOut (a1 : Int32) (a2 : Int32) (S : zSt) : Option (Unit × zSt) :=
  zbd (fX0_firstOf (zI S 24) S) (fun r1 S2 =>
  if a1 = (nI 6) then
    if r1 = 0 then
      fX2_workOut_73 a1 a2 (nI 3) (nI 6) a2 S2
    else
      fX2_workOut_73 a1 a2 (nI 2) (nI 6) a2 S2
  else
  if a1 = (nI 7) then
    zbd (fX2_secondBelow (nI 1) S2) (fun r3 S4 =>
    zbd (fX2_secondBelow (nI 2) S4) (fun r5 S6 =>
    zbd (fX0_become a2 (nI 4) r3 r5 S6) (fun _ S8 =>
    fX2_workOut_225 a1 a2 S8)))
  else
  if a1 = (nI 9) then
    zbd (fX0_become a2 (nI 6) r1 (-3 : Int32) S2) (fun _ S16 =>
    fX2_workOut_225 a1 a2 S16)
  else
  if a1 = (nI 10) then
    zbd (fX0_secondOf (zI S2 24) S2) (fun r17 S18 =>
    zbd (fX0_become a2 (nI 6) r17 (-3 : Int32) S18) (fun _ S20 =>
    fX2_workOut_225 a1 a2 S20))
  else
  if a1 = (nI 11) then
    zbd (fX2_isNil (zI S2 24) S2) (fun r21 S22 =>
    if r21 = 0 then
      fX2_workOut_190 a1 a2 (nI 0) (nI 0) a2 S22
    else
      fX2_workOut_190 a1 a2 (nI 1) (nI 0) a2 S22)
  else
  if a1 = (nI 12) then
    zbd (fX2_secondBelow (nI 2) S2) (fun r23 S24 =>
    zbd (fX0_become a2 (nI 6) r23 (-3 : Int32) S24) (fun _ S26 =>
    fX2_workOut_225 a1 a2 S26))
  else
  zbd (fX0_firstOf (zI S2 25) S2) (fun r27 S28 =>
  zbd (fX2_calculate a1 r1 r27 S28) (fun r29 S30 =>
  zbd (fX0_become a2 (nI 0) r29 (-3 : Int32) S30) (fun _ S32 =>
  fX2_workOut_225 a1 a2 S32))))

def fX6_putOnDump (a1 : Int32) (S : zSt) : Option (Unit × zSt) :=
  zbd (fX6_hasRoom S) (fun r1 S2 =>
  if r1 = 0 then
    some ((), S2)
  else
    if (zI S2 20) < 0 then
      some ((), S2)
    else
      if (nI 599) ≤ (zI S2 20) then
        some ((), S2)
      else
        zck 600 ((zI S2 20) + (nI 1)) (
        zbd (fX6_push a1 (wA (wI S2 20 ((zI S2 20) + (nI 1))) 30 (((zI S2 20) + (nI 1)).toNatClampNeg) (zI S2 19))) (fun _ S4 =>
        some ((), S4))))

def fX6_takeFromDump (S : zSt) : Option (Unit × zSt) :=
  if (zI S 20) ≤ 0 then
    some ((), S)
  else
    zbd (fX6_beginOf (zI S 20) S) (fun r1 S2 =>
    some ((), wI (wI S2 19 r1) 20 ((zI S2 20) - (nI 1))))

def fX2_perform (a1 : Int32) (S : zSt) : Option (Unit × zSt) :=
  zbd (fX6_fromTop (nI 0) S) (fun r1 S2 =>
  zbd (fX0_firstOf r1 S2) (fun r3 S4 =>
  if a1 = (nI 0) then
    zbd (fX6_pop (nI 1) S4) (fun _ S6 =>
    zbd (fX6_push r3 S6) (fun _ S8 =>
    some ((), S8)))
  else
  if a1 = (nI 1) then
    zbd (fX6_push r3 S4) (fun _ S10 =>
    some ((), S10))
  else
  if a1 = (nI 2) then
    zbd (fX2_makeFunction r3 S4) (fun _ S12 =>
    some ((), S12))
  else
  if a1 = (nI 3) then
    zbd (fX6_putOnDump (zI S4 23) S4) (fun _ S14 =>
    some ((), S14))
  else
  if a1 = (nI 4) then
    zbd (fX2_needsOf r3 S4) (fun r15 S16 =>
    zbd (fX6_fromTop r15 S16) (fun r17 S18 =>
    zbd (fX2_workOut r3 r17 S18) (fun _ S20 =>
    some ((), S20))))
  else
  zbd (fX6_takeFromDump S4) (fun _ S22 =>
  some ((), S22))))

def fX2_attempt (S : zSt) : Option (Int32 × zSt) :=
  zbd (fX2_look S) (fun r1 S2 =>
  if r1 = (nI 6) then
    some ((nI 1), S2)
  else
    if r1 = (nI 7) then
      some ((nI 2), S2)
    else
      if (nI 5000) ≤ (zI S2 21) then
        some ((nI 3), S2)
      else
        zbd (fX2_hasRoomFor r1 S2) (fun r3 S4 =>
        if r3 = 0 then
          some ((nI 3), S4)
        else
          zbd (fX2_perform r1 S4) (fun _ S6 =>
          some ((nI 0), wI S6 21 ((zI S6 21) + (nI 1))))))

def fX2_errorFound (S : zSt) : Option (Int32 × zSt) :=
  some ((zI S 22), S)

def fX2_wouldMake (a1 : Int32) (S : zSt) : Option (Int32 × zSt) :=
  zbd (fX6_fromTop (nI 0) S) (fun r1 S2 =>
  zbd (fX0_kindOf r1 S2) (fun r3 S4 =>
  if r3 = (nI 2) then
    zbd (fX0_firstOf r1 S4) (fun r5 S6 =>
    if r5 = a1 then
      zbd (fX2_look S6) (fun r7 S8 =>
      if r7 = (nI 2) then
        some ((nI 1), S8)
      else
        some ((nI 0), S8))
    else
      some ((nI 0), S6))
  else
    some ((nI 0), S4)))

def fX9_step_52 (k26 : Int32 × Int32 × zSt → Option (Int32 × zSt)) (x1 : Int32) (x2 : Int32) (S : zSt) : Option (Int32 × zSt) :=
  zbd (fX2_attempt S) (fun r3 S4 =>
  zbd (fX2_errorFound (wI S4 2 r3)) (fun r5 S6 =>
  if (zI S6 2) = 0 then
    k26 (x1, (x2 + (nI 1)), wI S6 3 r5)
  else
    some (x2, wI S6 3 r5)))
def fX9_step_26 (k26 : Int32 × Int32 × zSt → Option (Int32 × zSt)) (x1 : Int32) (x2 : Int32) (S : zSt) : Option (Int32 × zSt) :=
  if x1 ≤ x2 then
    some (x2, S)
  else
    if x2 ≤ 0 then
      fX9_step_52 k26 x1 x2 S
    else
      zbd (fX2_wouldMake (zI S 4) S) (fun r1 S2 =>
      if r1 = 0 then
        fX9_step_52 k26 x1 x2 S2
      else
        some (x2, S2))
def fX9_step_26L (n : Nat) (a : Int32 × Int32 × zSt) : Option (Int32 × zSt) := zfix (fun k26 a => fX9_step_26 k26 a.1 a.2.1 a.2.2) n a
def fX9_step (a1 : Int32) (S : zSt) : Option (Int32 × zSt) :=
  if (zI S 0) = 0 then
    some ((-3 : Int32), S)
  else
    if a1 < (nI 1) then
      some ((-1 : Int32), S)
    else
      if a1 ≤ (nI 2000) then
        fX9_step_26L zFU (a1, (nI 0), S)
      else
        some ((-1 : Int32), S)

def fX9_state (S : zSt) : Option (Int32 × zSt) :=
  if (zI S 0) = 0 then
    some ((-3 : Int32), S)
  else
    some ((zI S 2), S)

def fX9_error (S : zSt) : Option (Int32 × zSt) :=
  if (zI S 0) = 0 then
    some ((-3 : Int32), S)
  else
    some ((zI S 3), S)

def fX9_next (S : zSt) : Option (Int32 × zSt) :=
  if (zI S 0) = 0 then
    some ((-3 : Int32), S)
  else
    zbd (fX2_look S) (fun r1 S2 =>
    some (r1, S2))

def fX9_stopAt (a1 : Int32) (S : zSt) : Option (Int32 × zSt) :=
  if (zI S 0) = 0 then
    some ((-3 : Int32), S)
  else
    if a1 < (-1 : Int32) then
      some ((-1 : Int32), S)
    else
      zbd (fX4_size S) (fun r1 S2 =>
      if a1 < r1 then
        some ((zI S2 4), wI S2 4 a1)
      else
        some ((-1 : Int32), S2))

def fX0_isFree (a1 : Int32) (S : zSt) : Option (Int32 × zSt) :=
  zbd (fX0_kindOf a1 S) (fun r1 S2 =>
  if r1 = (-1 : Int32) then
    some ((nI 1), S2)
  else
    some ((nI 0), S2))

def fX0_free (a1 : Int32) (S : zSt) : Option (Unit × zSt) :=
  zbd (fX0_isFree a1 S) (fun r1 S2 =>
  if r1 = 0 then
    zbd (fX0_become a1 (-1 : Int32) (nI 0) (-3 : Int32) S2) (fun _ S4 =>
    if (zI S4 17) ≤ a1 then
      some ((), wI (wI S4 14 ((zI S4 14) - (nI 1))) 17 (zI S4 17))
    else
      some ((), wI (wI S4 14 ((zI S4 14) - (nI 1))) 17 a1))
  else
    some ((), S2))

def fX0_hasOne (a1 : Int32) (S : zSt) : Option (Int32 × zSt) :=
  zbd (fX0_kindOf a1 S) (fun r1 S2 =>
  if r1 = (nI 6) then
    some ((nI 1), S2)
  else
    some ((nI 0), S2))

def fX0_hasTwo (a1 : Int32) (S : zSt) : Option (Int32 × zSt) :=
  zbd (fX0_kindOf a1 S) (fun r1 S2 =>
  if r1 = (nI 1) then
    some ((nI 1), S2)
  else
    if r1 = (nI 4) then
      some ((nI 1), S2)
    else
      some ((nI 0), S2))

def fX1_addFound (a1 : Int32) (a2 : Int32) (S : zSt) : Option (Unit × zSt) :=
  if a1 < 0 then
    some ((), S)
  else
    if (nI 400) ≤ a1 then
      some ((), S)
    else
      if (zI S 27) < 0 then
        some ((), S)
      else
        if (nI 400) ≤ (zI S 27) then
          some ((), S)
        else
          zck 400 a1 (
          zck 400 (zI S 27) (
          some ((), wI (wA (wA S 38 (a1.toNatClampNeg) a2) 36 ((zI S 27).toNatClampNeg) a1) 27 ((zI S 27) + (nI 1)))))

def fX1_lengthOf (a1 : Int32) (S : zSt) : Option (Int32 × zSt) :=
  if a1 < 0 then
    some ((nI 0), S)
  else
    if (nI 400) ≤ a1 then
      some ((nI 0), S)
    else
      zld 400 a1 (zA S 37) (fun v1 =>
      some (v1, S))

def fX1_comeTo (a1 : Int32) (a2 : Int32) (S : zSt) : Option (Unit × zSt) :=
  if a1 < 0 then
    some ((), S)
  else
    if (nI 400) ≤ a1 then
      some ((), S)
    else
      zld 400 a1 (zA S 37) (fun v1 =>
      if v1 = 0 then
        zbd (fX1_lengthOf a2 S) (fun r2 S3 =>
        zck 400 a1 (
        zbd (fX1_addFound a1 a2 (wA S3 37 (a1.toNatClampNeg) (r2 + (nI 1)))) (fun _ S5 =>
        some ((), S5))))
      else
        some ((), S))

def fX6_size (S : zSt) : Option (Int32 × zSt) :=
  some ((zI S 19), S)

def fX1_markBeginnings_39 (k39 : Int32 × zSt → Option (Unit × zSt)) (x1 : Int32) (S : zSt) : Option (Unit × zSt) :=
  zbd (fX6_size S) (fun r3 S4 =>
  if r3 ≤ x1 then
    some ((), S4)
  else
    zbd (fX6_at x1 S4) (fun r5 S6 =>
    if r5 < 0 then
      k39 ((x1 + (nI 1)), S6)
    else
      if (nI 400) ≤ r5 then
        k39 ((x1 + (nI 1)), S6)
      else
        zck 400 r5 (
        k39 ((x1 + (nI 1)), wA S6 37 (r5.toNatClampNeg) (nI 1)))))
def fX1_markBeginnings_39L (n : Nat) (a : Int32 × zSt) : Option (Unit × zSt) := zfix (fun k39 a => fX1_markBeginnings_39 k39 a.1 a.2) n a
def fX1_markBeginnings_2 (k2 : Int32 × zSt → Option (Unit × zSt)) (x1 : Int32) (S : zSt) : Option (Unit × zSt) :=
  if (nI 400) ≤ x1 then
    fX1_markBeginnings_39L zFU ((nI 0), S)
  else
    zbd (fX4_size S) (fun r1 S2 =>
    if r1 ≤ x1 then
      zck 400 x1 (
      k2 ((x1 + (nI 1)), wA S2 37 (x1.toNatClampNeg) (nI 0)))
    else
      zck 400 x1 (
      k2 ((x1 + (nI 1)), wA S2 37 (x1.toNatClampNeg) (nI 1))))
def fX1_markBeginnings_2L (n : Nat) (a : Int32 × zSt) : Option (Unit × zSt) := zfix (fun k2 a => fX1_markBeginnings_2 k2 a.1 a.2) n a
def fX1_markBeginnings (S : zSt) : Option (Unit × zSt) :=
  fX1_markBeginnings_2L zFU ((nI 0), S)

def fX1_findKept_124 (k42 : Int32 × zSt → Option (Unit × zSt)) (x1 : Int32) (x2 : Int32) (y0 : Int32) (S : zSt) : Option (Unit × zSt) :=
  zbd (fX1_comeTo y0 x2 S) (fun _ S20 =>
  k42 ((x1 + (nI 1)), S20))
def fX1_findKept_107 (k42 : Int32 × zSt → Option (Unit × zSt)) (x1 : Int32) (x2 : Int32) (x3 : Int32) (x4 : Int32) (y0 : Int32) (S : zSt) : Option (Unit × zSt) :=
  zbd (fX1_comeTo y0 x2 S) (fun _ S18 =>
  if x4 ≤ x3 then
    fX1_findKept_124 k42 x1 x2 x3 S18
  else
    fX1_findKept_124 k42 x1 x2 x4 S18)
def fX1_findKept_42 (k42 : Int32 × zSt → Option (Unit × zSt)) (x1 : Int32) (S : zSt) : Option (Unit × zSt) :=
  if (zI S 27) ≤ x1 then
    some ((), S)
  else
    if (nI 400) ≤ x1 then
      some ((), S)
    else
      zld 400 x1 (zA S 36) (fun v6 =>
      zbd (fX0_firstOf v6 S) (fun r7 S8 =>
      zbd (fX0_secondOf v6 S8) (fun r9 S10 =>
      zbd (fX0_hasTwo v6 S10) (fun r11 S12 =>
      if r11 = 0 then
        zbd (fX0_hasOne v6 S12) (fun r13 S14 =>
        if r13 = 0 then
          k42 ((x1 + (nI 1)), S14)
        else
          zbd (fX1_comeTo r7 v6 S14) (fun _ S16 =>
          k42 ((x1 + (nI 1)), S16)))
      else
        if r9 ≤ r7 then
          fX1_findKept_107 k42 x1 v6 r7 r9 r9 S12
        else
          fX1_findKept_107 k42 x1 v6 r7 r9 r7 S12))))
def fX1_findKept_42L (n : Nat) (a : Int32 × zSt) : Option (Unit × zSt) := zfix (fun k42 a => fX1_findKept_42 k42 a.1 a.2) n a
def fX1_findKept_11 (k11 : Int32 × zSt → Option (Unit × zSt)) (x1 : Int32) (S : zSt) : Option (Unit × zSt) :=
  if (nI 400) ≤ x1 then
    fX1_findKept_42L zFU ((nI 0), S)
  else
    zld 400 x1 (zA S 37) (fun v3 =>
    if v3 = (nI 1) then
      zbd (fX1_addFound x1 (-1 : Int32) S) (fun _ S5 =>
      k11 ((x1 + (nI 1)), S5))
    else
      k11 ((x1 + (nI 1)), S))
def fX1_findKept_11L (n : Nat) (a : Int32 × zSt) : Option (Unit × zSt) := zfix (fun k11 a => fX1_findKept_11 k11 a.1 a.2) n a
def fX1_findKept (S : zSt) : Option (Unit × zSt) :=
  zbd (fX1_markBeginnings (wI S 27 (nI 0))) (fun _ S2 =>
  fX1_findKept_11L zFU ((nI 0), S2))

def fX1_freeTheRest_8 (k8 : Int32 × Int32 × zSt → Option (Int32 × zSt)) (x1 : Int32) (x2 : Int32) (S : zSt) : Option (Int32 × zSt) :=
  if (nI 400) ≤ x2 then
    some (x1, S)
  else
    zld 400 x2 (zA S 37) (fun v3 =>
    if v3 = 0 then
      zbd (fX0_isFree x2 S) (fun r4 S5 =>
      if r4 = 0 then
        zbd (fX0_free x2 S5) (fun _ S7 =>
        k8 ((x1 + (nI 1)), (x2 + (nI 1)), S7))
      else
        k8 (x1, (x2 + (nI 1)), S5))
    else
      k8 (x1, (x2 + (nI 1)), S))
def fX1_freeTheRest_8L (n : Nat) (a : Int32 × Int32 × zSt) : Option (Int32 × zSt) := zfix (fun k8 a => fX1_freeTheRest_8 k8 a.1 a.2.1 a.2.2) n a
def fX1_freeTheRest (S : zSt) : Option (Int32 × zSt) :=
  zbd (fX1_findKept S) (fun _ S2 =>
  fX1_freeTheRest_8L zFU ((nI 0), (nI 0), S2))

def fX9_back_87 (k56 : Int32 × Int32 × zSt → Option (Int32 × zSt)) (x2 : Int32) (x3 : Int32) (S : zSt) : Option (Int32 × zSt) :=
  if x2 ≤ x3 then
    k56 (x2, (x3 + (nI 1)), S)
  else
    zbd (fX2_attempt S) (fun r12 S13 =>
    k56 (x2, (x3 + (nI 1)), S13))
def fX9_back_56 (k56 : Int32 × Int32 × zSt → Option (Int32 × zSt)) (x2 : Int32) (x3 : Int32) (S : zSt) : Option (Int32 × zSt) :=
  if x2 < x3 then
    some (x2, S)
  else
    if (nI 5001) ≤ x3 then
      some (x2, S)
    else
      zld 5001 x3 (zA S 10) (fun v9 =>
      if v9 = 0 then
        fX9_back_87 k56 x2 x3 S
      else
        zbd (fX1_freeTheRest S) (fun r10 S11 =>
        fX9_back_87 k56 x2 x3 S11))
def fX9_back_56L (n : Nat) (a : Int32 × Int32 × zSt) : Option (Int32 × zSt) := zfix (fun k56 a => fX9_back_56 k56 a.1 a.2.1 a.2.2) n a
def fX9_back (a1 : Int32) (S : zSt) : Option (Int32 × zSt) :=
  if (zI S 0) = 0 then
    some ((-3 : Int32), S)
  else
    zbd (fX2_stepsDone S) (fun r1 S2 =>
    if a1 < 0 then
      some ((-1 : Int32), S2)
    else
      if 0 ≤ (r1 - a1) then
        zbd (fX9_goOn S2) (fun _ S4 =>
        if a1 = 0 then
          some ((r1 - a1), S4)
        else
          zbd (fX9_forgetSweeps ((r1 - a1) + (nI 1)) S4) (fun _ S6 =>
          zbd (fX2_begin S6) (fun _ S8 =>
          fX9_back_56L zFU ((r1 - a1), (nI 0), S8))))
      else
        some ((-1 : Int32), S2))

def fX9_sweep_50 (x1 : Int32) (S : zSt) : Option (Int32 × zSt) :=
  zbd (fX9_goOn S) (fun _ S6 =>
  some (x1, S6))
def fX9_sweep (S : zSt) : Option (Int32 × zSt) :=
  if (zI S 0) = 0 then
    some ((-3 : Int32), S)
  else
    zbd (fX1_freeTheRest S) (fun r1 S2 =>
    zbd (fX2_stepsDone S2) (fun r3 S4 =>
    if r1 ≤ 0 then
      fX9_sweep_50 r1 S4
    else
      if r3 < 0 then
        fX9_sweep_50 r1 S4
      else
        if (nI 5001) ≤ r3 then
          fX9_sweep_50 r1 S4
        else
          zck 5001 r3 (
          fX9_sweep_50 r1 (wA S4 10 (r3.toNatClampNeg) (vp_nar .boolean (nI 1))))))

def fX0_made (S : zSt) : Option (Int32 × zSt) :=
  some ((zI S 15), S)

def fX0_most (S : zSt) : Option (Int32 × zSt) :=
  some ((zI S 16), S)

def fX0_used (S : zSt) : Option (Int32 × zSt) :=
  some ((zI S 14), S)

def fX1_countKept (S : zSt) : Option (Int32 × zSt) :=
  zbd (fX1_findKept S) (fun _ S2 =>
  some ((zI S2 27), S2))

def fX9_count (a1 : Int32) (S : zSt) : Option (Int32 × zSt) :=
  if (zI S 0) = 0 then
    some ((-3 : Int32), S)
  else
    if a1 = (nI 0) then
      zbd (fX0_used S) (fun r1 S2 =>
      some (r1, S2))
    else
    if a1 = (nI 1) then
      zbd (fX1_countKept S) (fun r3 S4 =>
      some (r3, S4))
    else
    if a1 = (nI 2) then
      zbd (fX6_height S) (fun r5 S6 =>
      some (r5, S6))
    else
    if a1 = (nI 3) then
      zbd (fX6_dumped S) (fun r7 S8 =>
      some (r7, S8))
    else
    if a1 = (nI 4) then
      zbd (fX2_stepsDone S) (fun r9 S10 =>
      some (r9, S10))
    else
    if a1 = (nI 5) then
      zbd (fX0_made S) (fun r11 S12 =>
      some (r11, S12))
    else
    if a1 = (nI 6) then
      zbd (fX0_most S) (fun r13 S14 =>
      some (r13, S14))
    else
    some ((-1 : Int32), S)

def fX0_makerOf (a1 : Int32) (S : zSt) : Option (Int32 × zSt) :=
  if a1 < 0 then
    some ((-3 : Int32), S)
  else
    if (nI 400) ≤ a1 then
      some ((-3 : Int32), S)
    else
      zld 400 a1 (zA S 28) (fun v1 =>
      some (v1, S))

def fX1_keeps (a1 : Int32) (S : zSt) : Option (Int32 × zSt) :=
  zbd (fX1_findKept S) (fun _ S2 =>
  zbd (fX1_lengthOf a1 S2) (fun r3 S4 =>
  if r3 ≤ 0 then
    some ((nI 0), S4)
  else
    some ((nI 1), S4)))

def fX1_placesThatHave_71 (k8 : Int32 × Int32 × Int32 × zSt → Option (Int32 × zSt)) (x1 : Int32) (x2 : Int32) (x3 : Int32) (x4 : Int32) (S : zSt) : Option (Int32 × zSt) :=
  zbd (fX0_hasTwo x4 S) (fun r8 S9 =>
  if r8 = 0 then
    k8 (x1, x2, (x3 + (nI 1)), S9)
  else
    zbd (fX0_secondOf x4 S9) (fun r10 S11 =>
    if r10 = x1 then
      k8 (x1, (x2 + (nI 1)), (x3 + (nI 1)), S11)
    else
      k8 (x1, x2, (x3 + (nI 1)), S11)))
def fX1_placesThatHave_55 (k8 : Int32 × Int32 × Int32 × zSt → Option (Int32 × zSt)) (x1 : Int32) (x2 : Int32) (x3 : Int32) (x4 : Int32) (S : zSt) : Option (Int32 × zSt) :=
  zbd (fX0_firstOf x4 S) (fun r12 S13 =>
  if r12 = x1 then
    fX1_placesThatHave_71 k8 x1 (x2 + (nI 1)) x3 x4 S13
  else
    fX1_placesThatHave_71 k8 x1 x2 x3 x4 S13)
def fX1_placesThatHave_107 (k107 : Int32 × Int32 × Int32 × zSt → Option (Int32 × zSt)) (x1 : Int32) (x2 : Int32) (x3 : Int32) (S : zSt) : Option (Int32 × zSt) :=
  zbd (fX6_size S) (fun r14 S15 =>
  if r14 ≤ x3 then
    some (x2, S15)
  else
    zbd (fX6_at x3 S15) (fun r16 S17 =>
    if r16 = x1 then
      k107 (x1, (x2 + (nI 1)), (x3 + (nI 1)), S17)
    else
      k107 (x1, x2, (x3 + (nI 1)), S17)))
def fX1_placesThatHave_107L (n : Nat) (a : Int32 × Int32 × Int32 × zSt) : Option (Int32 × zSt) := zfix (fun k107 a => fX1_placesThatHave_107 k107 a.1 a.2.1 a.2.2.1 a.2.2.2) n a
def fX1_placesThatHave_8 (k8 : Int32 × Int32 × Int32 × zSt → Option (Int32 × zSt)) (x1 : Int32) (x2 : Int32) (x3 : Int32) (S : zSt) : Option (Int32 × zSt) :=
  if (zI S 27) ≤ x3 then
    fX1_placesThatHave_107L zFU (x1, x2, (nI 0), S)
  else
    if (nI 400) ≤ x3 then
      fX1_placesThatHave_107L zFU (x1, x2, (nI 0), S)
    else
      zld 400 x3 (zA S 36) (fun v3 =>
      zbd (fX0_hasTwo v3 S) (fun r4 S5 =>
      if r4 = 0 then
        zbd (fX0_hasOne v3 S5) (fun r6 S7 =>
        if r6 = 0 then
          fX1_placesThatHave_71 k8 x1 x2 x3 v3 S7
        else
          fX1_placesThatHave_55 k8 x1 x2 x3 v3 S7)
      else
        fX1_placesThatHave_55 k8 x1 x2 x3 v3 S5))
def fX1_placesThatHave_8L (n : Nat) (a : Int32 × Int32 × Int32 × zSt) : Option (Int32 × zSt) := zfix (fun k8 a => fX1_placesThatHave_8 k8 a.1 a.2.1 a.2.2.1 a.2.2.2) n a
def fX1_placesThatHave (a1 : Int32) (S : zSt) : Option (Int32 × zSt) :=
  zbd (fX1_findKept S) (fun _ S2 =>
  fX1_placesThatHave_8L zFU (a1, (nI 0), (nI 0), S2))

def fX9_node (a1 : Int32) (a2 : Int32) (S : zSt) : Option (Int32 × zSt) :=
  if (zI S 0) = 0 then
    some ((-3 : Int32), S)
  else
    zbd (fX0_isFree a1 S) (fun r1 S2 =>
    if r1 = 0 then
      if a2 = (nI 0) then
        zbd (fX0_kindOf a1 S2) (fun r3 S4 =>
        some (r3, S4))
      else
      if a2 = (nI 1) then
        zbd (fX0_firstOf a1 S2) (fun r5 S6 =>
        some (r5, S6))
      else
      if a2 = (nI 2) then
        zbd (fX0_secondOf a1 S2) (fun r7 S8 =>
        some (r7, S8))
      else
      if a2 = (nI 3) then
        zbd (fX0_makerOf a1 S2) (fun r9 S10 =>
        some (r9, S10))
      else
      if a2 = (nI 4) then
        zbd (fX1_placesThatHave a1 S2) (fun r11 S12 =>
        some (r11, S12))
      else
      if a2 = (nI 5) then
        zbd (fX1_keeps a1 S2) (fun r13 S14 =>
        if r13 = 0 then
          some ((nI 0), S14)
        else
          some ((nI 1), S14))
      else
      some ((-1 : Int32), S2)
    else
      some ((-1 : Int32), S2))

def fX9_top (a1 : Int32) (S : zSt) : Option (Int32 × zSt) :=
  if (zI S 0) = 0 then
    some ((-3 : Int32), S)
  else
    zbd (fX6_fromTop a1 S) (fun r1 S2 =>
    if r1 = (-1 : Int32) then
      some ((-1 : Int32), S2)
    else
      some (r1, S2))

def fX6_topOfDumped (a1 : Int32) (S : zSt) : Option (Int32 × zSt) :=
  if a1 < 0 then
    some ((-1 : Int32), S)
  else
    if (zI S 20) ≤ a1 then
      some ((-1 : Int32), S)
    else
      zbd (fX6_beginOf ((zI S 20) - a1) S) (fun r1 S2 =>
      zbd (fX6_at (r1 - (nI 1)) S2) (fun r3 S4 =>
      some (r3, S4)))

def fX9_why (a1 : Int32) (S : zSt) : Option (Int32 × zSt) :=
  if (zI S 0) = 0 then
    some ((-3 : Int32), S)
  else
    zbd (fX6_topOfDumped a1 S) (fun r1 S2 =>
    if r1 = (-1 : Int32) then
      some ((-1 : Int32), S2)
    else
      some (r1, S2))

def fX1_onWay_11 (k11 : Int32 × Int32 × Int32 × zSt → Option (Int32 × zSt)) (x2 : Int32) (x3 : Int32) (x4 : Int32) (S : zSt) : Option (Int32 × zSt) :=
  if x4 ≤ x2 then
    some (x3, S)
  else
    if x3 < 0 then
      some (x3, S)
    else
      if (nI 400) ≤ x3 then
        some (x3, S)
      else
        zld 400 x3 (zA S 38) (fun v3 =>
        k11 (x2, v3, (x4 + (-1 : Int32)), S))
def fX1_onWay_11L (n : Nat) (a : Int32 × Int32 × Int32 × zSt) : Option (Int32 × zSt) := zfix (fun k11 a => fX1_onWay_11 k11 a.1 a.2.1 a.2.2.1 a.2.2.2) n a
def fX1_onWay (a1 : Int32) (a2 : Int32) (S : zSt) : Option (Int32 × zSt) :=
  zbd (fX1_lengthOf a1 S) (fun r1 S2 =>
  fX1_onWay_11L zFU (a2, a1, (r1 - (nI 1)), S2))

def fX1_wayTo (a1 : Int32) (S : zSt) : Option (Int32 × zSt) :=
  zbd (fX1_findKept S) (fun _ S2 =>
  zbd (fX1_lengthOf a1 S2) (fun r3 S4 =>
  some (r3, S4)))

def fX9_way (a1 : Int32) (a2 : Int32) (S : zSt) : Option (Int32 × zSt) :=
  if (zI S 0) = 0 then
    some ((-3 : Int32), S)
  else
    zbd (fX1_wayTo a1 S) (fun r1 S2 =>
    if r1 = 0 then
      some ((-1 : Int32), S2)
    else
      if a2 < (-1 : Int32) then
        some ((-1 : Int32), S2)
      else
        if a2 < r1 then
          if a2 = (-1 : Int32) then
            some (r1, S2)
          else
            zbd (fX1_onWay a1 a2 S2) (fun r3 S4 =>
            some (r3, S4))
        else
          some ((-1 : Int32), S2))

def fX2_nodesMadeBy (a1 : Int32) (S : zSt) : Option (Int32 × zSt) :=
  if a1 < 0 then
    some ((nI 0), S)
  else
    if (nI 20) ≤ a1 then
      some ((nI 0), S)
    else
      zld 20 a1 (zA S 32) (fun v1 =>
      some (v1, S))

def fX2_timesMade (a1 : Int32) (S : zSt) : Option (Int32 × zSt) :=
  if a1 < 0 then
    some ((nI 0), S)
  else
    if (nI 20) ≤ a1 then
      some ((nI 0), S)
    else
      zld 20 a1 (zA S 31) (fun v1 =>
      some (v1, S))

def fX9_profile (a1 : Int32) (a2 : Int32) (S : zSt) : Option (Int32 × zSt) :=
  if (zI S 0) = 0 then
    some ((-3 : Int32), S)
  else
    if a1 < 0 then
      some ((-1 : Int32), S)
    else
      zbd (fX4_size S) (fun r1 S2 =>
      if r1 ≤ a1 then
        some ((-1 : Int32), S2)
      else
        if a2 < 0 then
          some ((-1 : Int32), S2)
        else
          if a2 ≤ (nI 1) then
            if a2 = 0 then
              zbd (fX2_timesMade a1 S2) (fun r5 S6 =>
              some (r5, S6))
            else
              zbd (fX2_nodesMadeBy a1 S2) (fun r3 S4 =>
              some (r3, S4))
          else
            some ((-1 : Int32), S2))

def fX9_rest (S : zSt) : Option (Int32 × zSt) :=
  if (zI S 0) = 0 then
    some ((-3 : Int32), S)
  else
    if (zI S 2) = (nI 1) then
      zbd (fX6_fromTop (nI 0) S) (fun r1 S2 =>
      zbd (fX0_kindOf r1 S2) (fun r3 S4 =>
      if r3 = (nI 0) then
        some ((nI 0), S4)
      else
      if r3 = (nI 4) then
        some ((nI 1), S4)
      else
      if r3 = (nI 5) then
        some ((nI 2), S4)
      else
      some ((nI 3), S4)))
    else
      some ((-3 : Int32), S)
