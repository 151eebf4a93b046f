def fX10_thrown (S : zSt) : Option (Int32 × zSt) :=
  some ((zI S 0), S)

def fX10_in (a0 : Int32) (a1 : Int32) (a2 : Int32) (S : zSt) : Option (Int32 × zSt) :=
  if a0 < a1 then
    some ((nI 0), S)
  else
    if a2 < a0 then
      some ((nI 0), S)
    else
      some ((nI 1), S)

def fX10_feed_77 (k24 : Int32 × Int32 × Int32 × Int32 × Int32 × Int32 × zSt → Option (Int32 × zSt)) (x1 : Int32) (x2 : Int32) (x3 : Int32) (x4 : Int32) (x5 : Int32) (x6 : Int32) (y0 : Int32) (S : zSt) : Option (Int32 × zSt) :=
  zck 800 ((zI S 1) + x6) (
  k24 (x1, x2, x3, x4, x5, (x6 + (nI 1)), wA S 1 (((zI S 1) + x6).toNatClampNeg) ((y0 >>> (((nI 24) - ((nI 8) * (x6 - x6 / (nI 4) * (nI 4)))) &&& 31)) &&& (nI 255))))
def fX10_feed_24 (k24 : Int32 × Int32 × Int32 × Int32 × Int32 × Int32 × zSt → Option (Int32 × zSt)) (x1 : Int32) (x2 : Int32) (x3 : Int32) (x4 : Int32) (x5 : Int32) (x6 : Int32) (S : zSt) : Option (Int32 × zSt) :=
  if (nI 20) ≤ x6 then
    some (((zI S 1) + (nI 20)), wI S 1 ((zI S 1) + (nI 20)))
  else
    if (nI 4) ≤ x6 then
      if (nI 8) ≤ x6 then
        if (nI 12) ≤ x6 then
          if (nI 16) ≤ x6 then
            fX10_feed_77 k24 x1 x2 x3 x4 x5 x6 x5 S
          else
            fX10_feed_77 k24 x1 x2 x3 x4 x5 x6 x4 S
        else
          fX10_feed_77 k24 x1 x2 x3 x4 x5 x6 x3 S
      else
        fX10_feed_77 k24 x1 x2 x3 x4 x5 x6 x2 S
    else
      fX10_feed_77 k24 x1 x2 x3 x4 x5 x6 x1 S
def fX10_feed_24L (n : Nat) (a : Int32 × Int32 × Int32 × Int32 × Int32 × Int32 × zSt) : Option (Int32 × zSt) := zfix (fun k24 a => fX10_feed_24 k24 a.1 a.2.1 a.2.2.1 a.2.2.2.1 a.2.2.2.2.1 a.2.2.2.2.2.1 a.2.2.2.2.2.2) n a
def fX10_feed (a1 : Int32) (a2 : Int32) (a3 : Int32) (a4 : Int32) (a5 : Int32) (S : zSt) : Option (Int32 × zSt) :=
  if ((zI S 1) + (nI 20)) ≤ (nI 800) then
    fX10_feed_24L zFU (a1, a2, a3, a4, a5, (nI 0), wI S 0 (nI 0))
  else
    some ((-2 : Int32), wI S 0 (nI 0))

def fX10_cut (a1 : Int32) (S : zSt) : Option (Int32 × zSt) :=
  zbd (fX10_in a1 (nI 0) (zI S 1) (wI S 0 (nI 0))) (fun r1 S2 =>
  if r1 = 0 then
    some ((-1 : Int32), S2)
  else
    some (((zI S2 1) - a1), wI S2 1 a1))

def fX10_at (a1 : Int32) (S : zSt) : Option (Int32 × zSt) :=
  if (zI S 1) ≤ a1 then
    some ((nI 0), S)
  else
    zld 800 a1 (zA S 1) (fun v1 =>
    some (v1, S))

def fX10_isLetter (a0 : Int32) (S : zSt) : Option (Int32 × zSt) :=
  if a0 < (nI 97) then
    some ((nI 0), S)
  else
    if (nI 122) < a0 then
      some ((nI 0), S)
    else
      some ((nI 1), S)

def fX10_isDigit (a0 : Int32) (S : zSt) : Option (Int32 × zSt) :=
  if a0 < (nI 48) then
    some ((nI 0), S)
  else
    if (nI 57) < a0 then
      some ((nI 0), S)
    else
      some ((nI 1), S)

def fX10_token_45 (k8 : zSt → Option (Unit × zSt)) (S : zSt) : Option (Unit × zSt) :=
  k8 (wI S 4 ((zI S 4) + (nI 1)))
def fX10_token_161 (k106 : zSt → Option (Unit × zSt)) (y0 : Int32) (S : zSt) : Option (Unit × zSt) :=
  k106 (wI (wI S 5 y0) 4 ((zI S 4) + (nI 1)))
def fX10_token_106 (k106 : zSt → Option (Unit × zSt)) (S : zSt) : Option (Unit × zSt) :=
  zbd (fX10_at (zI S 4) S) (fun r11 S12 =>
  zbd (fX10_isDigit r11 S12) (fun r13 S14 =>
  if r13 = 0 then
    if ((zI S14 4) - (zI S14 3)) ≤ (nI 9) then
      some ((), wI S14 2 (nI 1))
    else
      some ((), wI S14 2 (nI 5))
  else
    if (nI 9) ≤ ((zI S14 4) - (zI S14 3)) then
      fX10_token_161 k106 (zI S14 5) S14
    else
      zbd (fX10_at (zI S14 4) S14) (fun r15 S16 =>
      fX10_token_161 k106 ((((nI 10) * (zI S14 5)) + r15) - (nI 48)) S16)))
def fX10_token_106L (n : Nat) (a : zSt) : Option (Unit × zSt) := zfix (fun k106 a => fX10_token_106 k106 a) n a
def fX10_token_243 (k215 : zSt → Option (Unit × zSt)) (S : zSt) : Option (Unit × zSt) :=
  zbd (fX10_at (zI S 4) S) (fun r26 S27 =>
  k215 (wI (wL S27 0 (((zL S 0) <<< ((nI 8).toInt64 &&& 63)) ||| r26.toInt64)) 4 ((zI S27 4) + (nI 1))))
def fX10_token_302 (k302 : Int32 × zSt → Option (Unit × zSt)) (x2 : Int32) (S : zSt) : Option (Unit × zSt) :=
  if (nI 15) ≤ x2 then
    some ((), S)
  else
    if (zI S 2) = (nI 2) then
      zld 15 x2 (zB S 2) (fun v25 =>
      if (lg_cmp v25 (zL S 0)) = 0 then
        if (nI 2) ≤ x2 then
          k302 ((x2 + (nI 1)), wI S 2 (((nI 10) + x2) - (nI 2)))
        else
          k302 ((x2 + (nI 1)), wI S 2 ((nI 3) + x2))
      else
        k302 ((x2 + (nI 1)), wI S 2 (zI S 2)))
    else
      some ((), S)
def fX10_token_302L (n : Nat) (a : Int32 × zSt) : Option (Unit × zSt) := zfix (fun k302 a => fX10_token_302 k302 a.1 a.2) n a
def fX10_token_215 (k215 : zSt → Option (Unit × zSt)) (S : zSt) : Option (Unit × zSt) :=
  zbd (fX10_at (zI S 4) S) (fun r17 S18 =>
  zbd (fX10_isLetter r17 S18) (fun r19 S20 =>
  if r19 = 0 then
    zbd (fX10_at (zI S20 4) S20) (fun r21 S22 =>
    zbd (fX10_isDigit r21 S22) (fun r23 S24 =>
    if r23 = 0 then
      if ((zI S24 4) - (zI S24 3)) ≤ (nI 8) then
        fX10_token_302L zFU ((nI 0), wI S24 2 (nI 2))
      else
        fX10_token_302L zFU ((nI 0), wI S24 2 (nI 5))
    else
      fX10_token_243 k215 S24))
  else
    fX10_token_243 k215 S20))
def fX10_token_215L (n : Nat) (a : zSt) : Option (Unit × zSt) := zfix (fun k215 a => fX10_token_215 k215 a) n a
def fX10_token_58 (S : zSt) : Option (Unit × zSt) :=
  zbd (fX10_at (zI S 4) (wI S 3 (zI S 4))) (fun r5 S6 =>
  if (zI S6 3) = (zI S6 1) then
    some ((), wI S6 2 (nI 0))
  else
    zbd (fX10_isDigit r5 S6) (fun r7 S8 =>
    if r7 = 0 then
      zbd (fX10_isLetter r5 S8) (fun r9 S10 =>
      if r9 = 0 then
        if r5 = (nI 61) then
          some ((), wI (wI S10 4 ((zI S10 4) + (nI 1))) 2 r5)
        else
          if r5 = (nI 59) then
            some ((), wI (wI S10 4 ((zI S10 4) + (nI 1))) 2 r5)
          else
            if r5 = (nI 40) then
              some ((), wI (wI S10 4 ((zI S10 4) + (nI 1))) 2 r5)
            else
              if r5 = (nI 41) then
                some ((), wI (wI S10 4 ((zI S10 4) + (nI 1))) 2 r5)
              else
                some ((), wI (wI S10 4 ((zI S10 4) + (nI 1))) 2 (nI 5))
      else
        fX10_token_215L zFU (wL S10 0 (0 : Int64)))
    else
      fX10_token_106L zFU (wI S8 5 (nI 0))))
def fX10_token_8 (k8 : zSt → Option (Unit × zSt)) (S : zSt) : Option (Unit × zSt) :=
  if (zI S 1) ≤ (zI S 4) then
    fX10_token_58 S
  else
    zbd (fX10_at (zI S 4) S) (fun r1 S2 =>
    if r1 = (nI 32) then
      fX10_token_45 k8 S2
    else
      zbd (fX10_at (zI S2 4) S2) (fun r3 S4 =>
      if r3 = (nI 10) then
        fX10_token_45 k8 S4
      else
        fX10_token_58 S4))
def fX10_token_8L (n : Nat) (a : zSt) : Option (Unit × zSt) := zfix (fun k8 a => fX10_token_8 k8 a) n a
def fX10_token (S : zSt) : Option (Unit × zSt) :=
  if (zI S 6) = 0 then
    fX10_token_8L zFU S
  else
    some ((), S)

def fX10_fail (a1 : Int32) (a2 : Int32) (S : zSt) : Option (Unit × zSt) :=
  if (zI S 6) = 0 then
    some ((), wI (wI S 6 a1) 7 a2)
  else
    some ((), S)

def fX10_can_40 (S : zSt) : Option (Int32 × zSt) :=
  if (zI S 6) = 0 then
    some ((nI 1), S)
  else
    some ((nI 0), S)
def fX10_can_33 (y0 : Int32) (S : zSt) : Option (Int32 × zSt) :=
  zbd (fX10_fail y0 (zI S 3) S) (fun _ S2 =>
  fX10_can_40 S2)
def fX10_can_19 (S : zSt) : Option (Int32 × zSt) :=
  if (zI S 2) = (nI 5) then
    fX10_can_33 (nI 1) S
  else
    fX10_can_33 (nI 2) S
def fX10_can (a1 : Int32) (S : zSt) : Option (Int32 × zSt) :=
  if (zI S 6) = 0 then
    if a1 = 0 then
      fX10_can_19 S
    else
      if (zI S 2) = (nI 5) then
        fX10_can_19 S
      else
        fX10_can_40 S
  else
    fX10_can_40 S

def fX10_need_24 (S : zSt) : Option (Int32 × zSt) :=
  if (zI S 6) = 0 then
    some ((nI 1), S)
  else
    some ((nI 0), S)
def fX10_need_14 (y0 : Int32) (S : zSt) : Option (Int32 × zSt) :=
  zbd (fX10_can y0 S) (fun r1 S2 =>
  if r1 = 0 then
    fX10_need_24 S2
  else
    zbd (fX10_token S2) (fun _ S4 =>
    fX10_need_24 S4))
def fX10_need (a1 : Int32) (S : zSt) : Option (Int32 × zSt) :=
  if (zI S 2) = a1 then
    fX10_need_14 (nI 1) S
  else
    fX10_need_14 (nI 0) S

def fX10_room_20 (S : zSt) : Option (Int32 × zSt) :=
  if (zI S 6) = 0 then
    some ((nI 1), S)
  else
    some ((nI 0), S)
def fX10_room (a1 : Int32) (S : zSt) : Option (Int32 × zSt) :=
  if (zI S 6) = 0 then
    if a1 = 0 then
      zbd (fX10_fail (nI 3) (zI S 3) S) (fun _ S2 =>
      fX10_room_20 S2)
    else
      fX10_room_20 S
  else
    fX10_room_20 S

def fX10_emit (a1 : Int32) (a2 : Int32) (S : zSt) : Option (Int32 × zSt) :=
  zck 1700 (zI S 9) (
  zck 1700 (zI S 9) (
  some ((((zI S 9) + (nI 1)) - (nI 1)), wI (wA (wA S 9 ((zI S 9).toNatClampNeg) a1) 10 ((zI S 9).toNatClampNeg) a2) 9 ((zI S 9) + (nI 1)))))

def fX10_push (a1 : Int32) (S : zSt) : Option (Unit × zSt) :=
  zck 60 ((zI S 12) + (nI 1)) (
  zck 60 ((zI S 12) + (nI 1)) (
  zck 60 ((zI S 12) + (nI 1)) (
  some ((), wA (wA (wA (wI S 12 ((zI S 12) + (nI 1))) 17 (((zI S 12) + (nI 1)).toNatClampNeg) a1) 18 (((zI S 12) + (nI 1)).toNatClampNeg) (nI 0)) 19 (((zI S 12) + (nI 1)).toNatClampNeg) (nI 0)))))

def fX10_atoms_154 (S : zSt) : Option (Unit × zSt) :=
  some ((), wI S 12 ((zI S 12) - (nI 1)))
def fX10_atoms_223 (x1 : Int32) (y0 : Int32) (S : zSt) : Option (Unit × zSt) :=
  zbd (fX10_room y0 S) (fun r24 S25 =>
  if r24 = 0 then
    some ((), S25)
  else
    zbd (fX10_token (wI S25 13 ((zI S25 13) + (nI 1)))) (fun _ S27 =>
    zck 60 x1 (
    zbd (fX10_push (nI 0) (wA S27 18 (x1.toNatClampNeg) (nI 1))) (fun _ S29 =>
    some ((), S29)))))
def fX10_atoms_357 (S : zSt) : Option (Unit × zSt) :=
  zbd (fX10_token S) (fun _ S31 =>
  some ((), S31))
def fX10_atoms_182 (x1 : Int32) (y0 : Int32) (S : zSt) : Option (Unit × zSt) :=
  zbd (fX10_room y0 S) (fun r13 S14 =>
  if r13 = 0 then
    some ((), S14)
  else
    zld 60 x1 (zA S14 19) (fun v15 =>
    zck 60 x1 (
    if (zI S14 2) = (nI 40) then
      if (nI 12) ≤ (zI S14 13) then
        fX10_atoms_223 x1 (nI 0) (wA S14 19 (x1.toNatClampNeg) (v15 + (nI 1)))
      else
        fX10_atoms_223 x1 (nI 1) (wA S14 19 (x1.toNatClampNeg) (v15 + (nI 1)))
    else
      if (zI S14 2) = (nI 1) then
        zbd (fX10_emit (nI 1) (zI S14 5) (wA S14 19 (x1.toNatClampNeg) (v15 + (nI 1)))) (fun r22 S23 =>
        fX10_atoms_357 S23)
      else
        if (zI S14 2) = (nI 2) then
          zbd (fX10_emit (nI 4) (nI 0) (wA S14 19 (x1.toNatClampNeg) (v15 + (nI 1)))) (fun r20 S21 =>
          zck 1700 r20 (
          zck 1700 r20 (
          zck 1700 r20 (
          fX10_atoms_357 (wA (wA (wB S21 11 (r20.toNatClampNeg) (zL S21 0)) 12 (r20.toNatClampNeg) (zI S21 3)) 13 (r20.toNatClampNeg) (zI S21 14))))))
        else
          if (zI S14 2) = (nI 18) then
            zbd (fX10_emit (nI 2) (nI 0) (wA S14 19 (x1.toNatClampNeg) (v15 + (nI 1)))) (fun r18 S19 =>
            fX10_atoms_357 S19)
          else
            zbd (fX10_emit (nI 3) ((zI S14 2) - (nI 10)) (wA S14 19 (x1.toNatClampNeg) (v15 + (nI 1)))) (fun r16 S17 =>
            fX10_atoms_357 S17))))
def fX10_atoms_110 (x1 : Int32) (y0 : Int32) (S : zSt) : Option (Unit × zSt) :=
  if y0 = 0 then
    zld 60 x1 (zA S 19) (fun v6 =>
    if v6 = 0 then
      zbd (fX10_can (nI 0) S) (fun r11 S12 =>
      some ((), S12))
    else
      zld 60 x1 (zA S 19) (fun v7 =>
      if v7 ≤ (nI 1) then
        fX10_atoms_154 S
      else
        zld 60 x1 (zA S 19) (fun v8 =>
        zbd (fX10_emit (nI 8) v8 S) (fun r9 S10 =>
        fX10_atoms_154 S10))))
  else
    zld 60 x1 (zA S 19) (fun v5 =>
    if (nI 10) ≤ v5 then
      fX10_atoms_182 x1 (nI 0) S
    else
      fX10_atoms_182 x1 (nI 1) S)
def fX10_atoms_105 (x1 : Int32) (S : zSt) : Option (Unit × zSt) :=
  fX10_atoms_110 x1 (nI 1) S
def fX10_atoms_109 (x1 : Int32) (S : zSt) : Option (Unit × zSt) :=
  fX10_atoms_110 x1 (nI 0) S
def fX10_atoms_55 (x1 : Int32) (S : zSt) : Option (Unit × zSt) :=
  zck 60 x1 (
  if (zI S 2) = (nI 1) then
    fX10_atoms_105 x1 (wA S 18 (x1.toNatClampNeg) (nI 2))
  else
    if (zI S 2) = (nI 2) then
      fX10_atoms_105 x1 (wA S 18 (x1.toNatClampNeg) (nI 2))
    else
      if (zI S 2) = (nI 40) then
        fX10_atoms_105 x1 (wA S 18 (x1.toNatClampNeg) (nI 2))
      else
        if (zI S 2) < (nI 10) then
          fX10_atoms_109 x1 (wA S 18 (x1.toNatClampNeg) (nI 2))
        else
          if (nI 23) ≤ (zI S 2) then
            fX10_atoms_109 x1 (wA S 18 (x1.toNatClampNeg) (nI 2))
          else
            fX10_atoms_105 x1 (wA S 18 (x1.toNatClampNeg) (nI 2)))
def fX10_atoms_25 (x1 : Int32) (S : zSt) : Option (Unit × zSt) :=
  zld 60 x1 (zA S 18) (fun v2 =>
  if v2 = (nI 1) then
    zbd (fX10_need (nI 41) S) (fun r3 S4 =>
    if r3 = 0 then
      some ((), S4)
    else
      fX10_atoms_55 x1 (wI S4 13 ((zI S4 13) - (nI 1))))
  else
    fX10_atoms_55 x1 S)
def fX10_atoms (a1 : Int32) (S : zSt) : Option (Unit × zSt) :=
  zld 60 a1 (zA S 18) (fun v1 =>
  if v1 = 0 then
    if (zI S 2) = (nI 3) then
      zck 60 a1 (
      some ((), wA S 17 (a1.toNatClampNeg) (nI 1)))
    else
      fX10_atoms_25 a1 S
  else
    fX10_atoms_25 a1 S)

def fX10_let_284 (k284 : Int32 × Int32 × Int32 × zSt → Option (Unit × zSt)) (x1 : Int32) (x2 : Int32) (x3 : Int32) (S : zSt) : Option (Unit × zSt) :=
  if (zI S 11) ≤ x3 then
    zck 300 (zI S 11) (
    zck 300 (zI S 11) (
    zck 300 (zI S 11) (
    zck 60 x1 (
    zld 300 x2 (zA S 15) (fun v28 =>
    zck 300 x2 (
    zbd (fX10_token (wA (wI (wA (wA (wA (wB S 16 ((zI S 11).toNatClampNeg) (zL S 0)) 22 ((zI S 11).toNatClampNeg) x2) 23 ((zI S 11).toNatClampNeg) ((zI S 8) - (nI 1))) 21 (x1.toNatClampNeg) (zI S 11)) 11 ((zI S 11) + (nI 1))) 15 (x2.toNatClampNeg) (v28 + (nI 1)))) (fun _ S30 =>
    zbd (fX10_need (nI 61) S30) (fun r31 S32 =>
    if r31 = 0 then
      some ((), S32)
    else
      zck 60 x1 (
      zbd (fX10_push (nI 0) (wA S32 18 (x1.toNatClampNeg) (nI 2))) (fun _ S34 =>
      some ((), S34)))))))))))
  else
    zld 300 x3 (zA S 22) (fun v35 =>
    if v35 = x2 then
      zld 300 x3 (zB S 16) (fun v36 =>
      if (lg_cmp v36 (zL S 0)) = 0 then
        zbd (fX10_fail (nI 4) (zI S 3) S) (fun _ S38 =>
        some ((), S38))
      else
        k284 (x1, x2, (x3 + (nI 1)), S))
    else
      k284 (x1, x2, (x3 + (nI 1)), S))
def fX10_let_284L (n : Nat) (a : Int32 × Int32 × Int32 × zSt) : Option (Unit × zSt) := zfix (fun k284 a => fX10_let_284 k284 a.1 a.2.1 a.2.2.1 a.2.2.2) n a
def fX10_let_275 (x1 : Int32) (x2 : Int32) (y0 : Int32) (S : zSt) : Option (Unit × zSt) :=
  zbd (fX10_room y0 S) (fun r26 S27 =>
  if r26 = 0 then
    some ((), S27)
  else
    fX10_let_284L zFU (x1, x2, (nI 0), S27))
def fX10_let_252 (x1 : Int32) (x2 : Int32) (y0 : Int32) (S : zSt) : Option (Unit × zSt) :=
  zbd (fX10_can y0 S) (fun r23 S24 =>
  if r23 = 0 then
    some ((), S24)
  else
    zld 300 x2 (zA S24 15) (fun v25 =>
    if (nI 6) ≤ v25 then
      fX10_let_275 x1 x2 (nI 0) S24
    else
      fX10_let_275 x1 x2 (nI 1) S24))
def fX10_let_238 (x1 : Int32) (x2 : Int32) (S : zSt) : Option (Unit × zSt) :=
  if (zI S 2) = (nI 2) then
    fX10_let_252 x1 x2 (nI 1) S
  else
    fX10_let_252 x1 x2 (nI 0) S
def fX10_let_163 (x1 : Int32) (x2 : Int32) (S : zSt) : Option (Unit × zSt) :=
  zld 60 x1 (zA S 18) (fun v16 =>
  if v16 = (nI 3) then
    zld 300 x2 (zA S 14) (fun v22 =>
    some ((), wI (wI (wI S 13 ((zI S 13) - (nI 1))) 14 v22) 12 ((zI S 12) - (nI 1))))
  else
    zld 300 x2 (zA S 15) (fun v17 =>
    if v17 ≤ 0 then
      fX10_let_238 x1 x2 S
    else
      if (zI S 2) = (nI 4) then
        zbd (fX10_token S) (fun _ S19 =>
        zck 60 x1 (
        zbd (fX10_push (nI 0) (wA S19 18 (x1.toNatClampNeg) (nI 3))) (fun _ S21 =>
        some ((), S21))))
      else
        fX10_let_238 x1 x2 S))
def fX10_let_116 (x1 : Int32) (S : zSt) : Option (Unit × zSt) :=
  zld 60 x1 (zA S 20) (fun v9 =>
  zld 60 x1 (zA S 18) (fun v10 =>
  if v10 = (nI 2) then
    zld 60 x1 (zA S 21) (fun v11 =>
    zbd (fX10_emit (nI 10) v11 S) (fun r12 S13 =>
    zbd (fX10_need (nI 59) S13) (fun r14 S15 =>
    if r14 = 0 then
      some ((), S15)
    else
      zck 60 x1 (
      fX10_let_163 x1 v9 (wA S15 18 (x1.toNatClampNeg) (nI 1))))))
  else
    fX10_let_163 x1 v9 S))
def fX10_let_24 (x1 : Int32) (y0 : Int32) (S : zSt) : Option (Unit × zSt) :=
  zbd (fX10_room y0 S) (fun r2 S3 =>
  if r2 = 0 then
    some ((), S3)
  else
    zbd (fX10_token (wI S3 13 ((zI S3 13) + (nI 1)))) (fun _ S5 =>
    zck 60 x1 (
    zck 300 (zI S5 10) (
    zck 300 (zI S5 10) (
    zld 60 x1 (upd (zA S5 20) (x1.toNatClampNeg) (zI S5 10)) (fun v6 =>
    zbd (fX10_emit (nI 9) v6 (wI (wI (wA (wA (wA S5 20 (x1.toNatClampNeg) (zI S5 10)) 14 ((zI S5 10).toNatClampNeg) (zI S5 14)) 15 ((zI S5 10).toNatClampNeg) (nI 0)) 14 (zI S5 10)) 10 ((zI S5 10) + (nI 1)))) (fun r7 S8 =>
    zck 60 x1 (
    fX10_let_116 x1 (wA S8 18 (x1.toNatClampNeg) (nI 1))))))))))
def fX10_let (a1 : Int32) (S : zSt) : Option (Unit × zSt) :=
  zld 60 a1 (zA S 18) (fun v1 =>
  if v1 = 0 then
    if (nI 12) ≤ (zI S 13) then
      fX10_let_24 a1 (nI 0) S
    else
      fX10_let_24 a1 (nI 1) S
  else
    fX10_let_116 a1 S)

def fX10_expression_15 (k15 : zSt → Option (Unit × zSt)) (S : zSt) : Option (Unit × zSt) :=
  if (zI S 12) < 0 then
    some ((), S)
  else
    if (zI S 6) = 0 then
      zld 60 (zI S 12) (zA S 17) (fun v3 =>
      if v3 = 0 then
        zbd (fX10_atoms (zI S 12) S) (fun _ S7 =>
        k15 S7)
      else
        zbd (fX10_let (zI S 12) S) (fun _ S5 =>
        k15 S5))
    else
      some ((), S)
def fX10_expression_15L (n : Nat) (a : zSt) : Option (Unit × zSt) := zfix (fun k15 a => fX10_expression_15 k15 a) n a
def fX10_expression (S : zSt) : Option (Unit × zSt) :=
  zbd (fX10_push (nI 0) (wI (wI S 12 (-1 : Int32)) 14 (-1 : Int32))) (fun _ S2 =>
  fX10_expression_15L zFU S2)

def fX10_definition_148 (k108 : Int32 × zSt → Option (Unit × zSt)) (k148 : Int32 × Int32 × zSt → Option (Unit × zSt)) (x1 : Int32) (x2 : Int32) (S : zSt) : Option (Unit × zSt) :=
  zld 21 x1 (zA S 4) (fun v13 =>
  if v13 ≤ x2 then
    zld 21 x1 (zA S 4) (fun v14 =>
    zck 168 (((nI 8) * x1) + v14) (
    zld 21 x1 (zA S 4) (fun v15 =>
    zck 21 x1 (
    zbd (fX10_token (wA (wB S 5 ((((nI 8) * x1) + v14).toNatClampNeg) (zL S 0)) 4 (x1.toNatClampNeg) (v15 + (nI 1)))) (fun _ S17 =>
    k108 (x1, S17))))))
  else
    zld 168 (((nI 8) * x1) + x2) (zB S 5) (fun v18 =>
    if (lg_cmp v18 (zL S 0)) = 0 then
      zbd (fX10_fail (nI 4) (zI S 3) S) (fun _ S20 =>
      k148 (x1, (x2 + (nI 1)), S20))
    else
      k148 (x1, (x2 + (nI 1)), S)))
def fX10_definition_148L (k108 : Int32 × zSt → Option (Unit × zSt)) (n : Nat) (a : Int32 × Int32 × zSt) : Option (Unit × zSt) := zfix (fun k148 a => fX10_definition_148 k108 k148 a.1 a.2.1 a.2.2) n a
def fX10_definition_140 (k108 : Int32 × zSt → Option (Unit × zSt)) (x1 : Int32) (y0 : Int32) (S : zSt) : Option (Unit × zSt) :=
  zbd (fX10_room y0 S) (fun r11 S12 =>
  if r11 = 0 then
    k108 (x1, S12)
  else
    fX10_definition_148L k108 zFU (x1, (nI 0), S12))
def fX10_definition_229 (x1 : Int32) (S : zSt) : Option (Unit × zSt) :=
  zbd (fX10_need (nI 61) S) (fun r21 S22 =>
  if r21 = 0 then
    some ((), S22)
  else
    zck 21 x1 (
    zbd (fX10_expression (wI (wA S22 6 (x1.toNatClampNeg) (zI S22 9)) 8 ((zI S22 8) + (nI 1)))) (fun _ S24 =>
    zck 21 x1 (
    zbd (fX10_need (nI 59) (wA S24 7 (x1.toNatClampNeg) (zI S24 9))) (fun r25 S26 =>
    some ((), S26))))))
def fX10_definition_108 (k108 : Int32 × zSt → Option (Unit × zSt)) (x1 : Int32) (S : zSt) : Option (Unit × zSt) :=
  if (zI S 6) = 0 then
    if (zI S 2) = (nI 2) then
      zld 21 x1 (zA S 4) (fun v10 =>
      if (nI 8) ≤ v10 then
        fX10_definition_140 k108 x1 (nI 0) S
      else
        fX10_definition_140 k108 x1 (nI 1) S)
    else
      fX10_definition_229 x1 S
  else
    fX10_definition_229 x1 S
def fX10_definition_108L (n : Nat) (a : Int32 × zSt) : Option (Unit × zSt) := zfix (fun k108 a => fX10_definition_108 k108 a.1 a.2) n a
def fX10_definition_44 (k44 : Int32 × zSt → Option (Unit × zSt)) (x1 : Int32) (S : zSt) : Option (Unit × zSt) :=
  if (zI S 8) ≤ x1 then
    zck 21 (zI S 8) (
    zck 21 (zI S 8) (
    zbd (fX10_token (wA (wB S 3 ((zI S 8).toNatClampNeg) (zL S 0)) 4 ((zI S 8).toNatClampNeg) (nI 0))) (fun _ S6 =>
    fX10_definition_108L zFU ((zI S 8), S6))))
  else
    zld 21 x1 (zB S 3) (fun v7 =>
    if (lg_cmp v7 (zL S 0)) = 0 then
      zbd (fX10_fail (nI 4) (zI S 3) S) (fun _ S9 =>
      some ((), S9))
    else
      k44 ((x1 + (nI 1)), S))
def fX10_definition_44L (n : Nat) (a : Int32 × zSt) : Option (Unit × zSt) := zfix (fun k44 a => fX10_definition_44 k44 a.1 a.2) n a
def fX10_definition_35 (y0 : Int32) (S : zSt) : Option (Unit × zSt) :=
  zbd (fX10_room y0 S) (fun r3 S4 =>
  if r3 = 0 then
    some ((), S4)
  else
    fX10_definition_44L zFU ((nI 0), S4))
def fX10_definition_14 (y0 : Int32) (S : zSt) : Option (Unit × zSt) :=
  zbd (fX10_can y0 S) (fun r1 S2 =>
  if r1 = 0 then
    some ((), S2)
  else
    if (nI 20) ≤ (zI S2 8) then
      fX10_definition_35 (nI 0) S2
    else
      fX10_definition_35 (nI 1) S2)
def fX10_definition (S : zSt) : Option (Unit × zSt) :=
  if (zI S 2) = (nI 2) then
    fX10_definition_14 (nI 1) S
  else
    fX10_definition_14 (nI 0) S

def fX10_find_14 (k7 : Int32 × Int32 × Int32 × zSt → Option (Int32 × zSt)) (k14 : Int32 × Int32 × Int32 × Int32 × zSt → Option (Int32 × zSt)) (x1 : Int32) (x2 : Int32) (x3 : Int32) (x4 : Int32) (S : zSt) : Option (Int32 × zSt) :=
  if (zI S 11) ≤ x4 then
    zld 300 x3 (zA S 14) (fun v2 =>
    k7 (x1, x2, v2, S))
  else
    zld 300 x4 (zA S 22) (fun v3 =>
    if v3 = x3 then
      zld 300 x4 (zB S 16) (fun v4 =>
      zld 1700 x2 (zB S 11) (fun v5 =>
      if (lg_cmp v4 v5) = 0 then
        zck 1700 x2 (
        zck 1700 x2 (
        some ((nI 1), wA (wA S 9 (x2.toNatClampNeg) (nI 7)) 10 (x2.toNatClampNeg) x4)))
      else
        k14 (x1, x2, x3, (x4 + (nI 1)), S)))
    else
      k14 (x1, x2, x3, (x4 + (nI 1)), S))
def fX10_find_14L (k7 : Int32 × Int32 × Int32 × zSt → Option (Int32 × zSt)) (n : Nat) (a : Int32 × Int32 × Int32 × Int32 × zSt) : Option (Int32 × zSt) := zfix (fun k14 a => fX10_find_14 k7 k14 a.1 a.2.1 a.2.2.1 a.2.2.2.1 a.2.2.2.2) n a
def fX10_find_145 (k145 : Int32 × Int32 × zSt → Option (Int32 × zSt)) (x2 : Int32) (x3 : Int32) (S : zSt) : Option (Int32 × zSt) :=
  if (zI S 8) ≤ x3 then
    some ((nI 0), S)
  else
    zld 21 x3 (zB S 3) (fun v9 =>
    zld 1700 x2 (zB S 11) (fun v10 =>
    if (lg_cmp v9 v10) = 0 then
      zck 1700 x2 (
      zck 1700 x2 (
      some ((nI 1), wA (wA S 9 (x2.toNatClampNeg) (nI 5)) 10 (x2.toNatClampNeg) x3)))
    else
      k145 (x2, (x3 + (nI 1)), S)))
def fX10_find_145L (n : Nat) (a : Int32 × Int32 × zSt) : Option (Int32 × zSt) := zfix (fun k145 a => fX10_find_145 k145 a.1 a.2.1 a.2.2) n a
def fX10_find_87 (k87 : Int32 × Int32 × Int32 × zSt → Option (Int32 × zSt)) (x1 : Int32) (x2 : Int32) (x3 : Int32) (S : zSt) : Option (Int32 × zSt) :=
  zld 21 x1 (zA S 4) (fun v6 =>
  if v6 ≤ x3 then
    fX10_find_145L zFU (x2, (nI 0), S)
  else
    zld 168 (((nI 8) * x1) + x3) (zB S 5) (fun v7 =>
    zld 1700 x2 (zB S 11) (fun v8 =>
    if (lg_cmp v7 v8) = 0 then
      zck 1700 x2 (
      zck 1700 x2 (
      some ((nI 1), wA (wA S 9 (x2.toNatClampNeg) (nI 6)) 10 (x2.toNatClampNeg) (x3 + (nI 1)))))
    else
      k87 (x1, x2, (x3 + (nI 1)), S))))
def fX10_find_87L (n : Nat) (a : Int32 × Int32 × Int32 × zSt) : Option (Int32 × zSt) := zfix (fun k87 a => fX10_find_87 k87 a.1 a.2.1 a.2.2.1 a.2.2.2) n a
def fX10_find_7 (k7 : Int32 × Int32 × Int32 × zSt → Option (Int32 × zSt)) (x1 : Int32) (x2 : Int32) (x3 : Int32) (S : zSt) : Option (Int32 × zSt) :=
  if x3 < 0 then
    fX10_find_87L zFU (x1, x2, (nI 0), S)
  else
    fX10_find_14L k7 zFU (x1, x2, x3, (nI 0), S)
def fX10_find_7L (n : Nat) (a : Int32 × Int32 × Int32 × zSt) : Option (Int32 × zSt) := zfix (fun k7 a => fX10_find_7 k7 a.1 a.2.1 a.2.2.1 a.2.2.2) n a
def fX10_find (a1 : Int32) (a2 : Int32) (S : zSt) : Option (Int32 × zSt) :=
  zld 1700 a2 (zA S 13) (fun v1 =>
  fX10_find_7L zFU (a1, a2, v1, S))

def fX10_resolve_102 (k24 : Int32 × Int32 × zSt → Option (Unit × zSt)) (x1 : Int32) (x2 : Int32) (y0 : Int32) (y1 : Int32) (S : zSt) : Option (Unit × zSt) :=
  zck 21 y1 (
  k24 (x1, (x2 + (nI 1)), wA S 8 (y1.toNatClampNeg) (y0 + (nI 1))))
def fX10_resolve_65 (k24 : Int32 × Int32 × zSt → Option (Unit × zSt)) (x1 : Int32) (x2 : Int32) (S : zSt) : Option (Unit × zSt) :=
  zld 21 x1 (zA S 8) (fun v9 =>
  zld 1700 x2 (zA S 9) (fun v10 =>
  if v10 = (nI 1) then
    fX10_resolve_102 k24 x1 x2 v9 x1 S
  else
    zld 1700 x2 (zA S 9) (fun v11 =>
    if v11 = (nI 2) then
      fX10_resolve_102 k24 x1 x2 v9 x1 S
    else
      zld 1700 x2 (zA S 9) (fun v12 =>
      if v12 = (nI 3) then
        fX10_resolve_102 k24 x1 x2 v9 x1 S
      else
        zld 1700 x2 (zA S 9) (fun v13 =>
        if v13 = (nI 8) then
          zld 1700 x2 (zA S 10) (fun v14 =>
          zck 21 x1 (
          k24 (x1, (x2 + (nI 1)), wA S 8 (x1.toNatClampNeg) (v9 + (v14 - (nI 1))))))
        else
          zck 21 x1 (
          k24 (x1, (x2 + (nI 1)), wA S 8 (x1.toNatClampNeg) (v9 + (nI 0)))))))))
def fX10_resolve_24 (k2 : Int32 × zSt → Option (Unit × zSt)) (k24 : Int32 × Int32 × zSt → Option (Unit × zSt)) (x1 : Int32) (x2 : Int32) (S : zSt) : Option (Unit × zSt) :=
  zld 21 x1 (zA S 7) (fun v2 =>
  if v2 ≤ x2 then
    k2 ((x1 + (nI 1)), S)
  else
    zld 1700 x2 (zA S 9) (fun v3 =>
    if v3 = (nI 4) then
      zbd (fX10_find x1 x2 S) (fun r4 S5 =>
      if r4 = 0 then
        zld 1700 x2 (zA S5 12) (fun v6 =>
        zbd (fX10_fail (nI 5) v6 S5) (fun _ S8 =>
        some ((), S8)))
      else
        fX10_resolve_65 k24 x1 x2 S5)
    else
      fX10_resolve_65 k24 x1 x2 S))
def fX10_resolve_24L (k2 : Int32 × zSt → Option (Unit × zSt)) (n : Nat) (a : Int32 × Int32 × zSt) : Option (Unit × zSt) := zfix (fun k24 a => fX10_resolve_24 k2 k24 a.1 a.2.1 a.2.2) n a
def fX10_resolve_145 (k145 : Int32 × zSt → Option (Unit × zSt)) (x1 : Int32) (S : zSt) : Option (Unit × zSt) :=
  if (zI S 11) ≤ x1 then
    some ((), S)
  else
    zld 300 x1 (zA S 23) (fun v15 =>
    zld 21 v15 (zA S 8) (fun v16 =>
    zck 21 v15 (
    k145 ((x1 + (nI 1)), wA S 8 (v15.toNatClampNeg) (v16 + (nI 1))))))
def fX10_resolve_145L (n : Nat) (a : Int32 × zSt) : Option (Unit × zSt) := zfix (fun k145 a => fX10_resolve_145 k145 a.1 a.2) n a
def fX10_resolve_2 (k2 : Int32 × zSt → Option (Unit × zSt)) (x1 : Int32) (S : zSt) : Option (Unit × zSt) :=
  if (zI S 8) ≤ x1 then
    fX10_resolve_145L zFU ((nI 0), S)
  else
    zck 21 x1 (
    zld 21 x1 (zA S 6) (fun v1 =>
    fX10_resolve_24L k2 zFU (x1, v1, wA S 8 (x1.toNatClampNeg) (nI 0))))
def fX10_resolve_2L (n : Nat) (a : Int32 × zSt) : Option (Unit × zSt) := zfix (fun k2 a => fX10_resolve_2 k2 a.1 a.2) n a
def fX10_resolve (S : zSt) : Option (Unit × zSt) :=
  fX10_resolve_2L zFU ((nI 0), S)

def fX10_node_87 (x4 : Int32) (x5 : Int32) (y0 : Int32) (S : zSt) : Option (Int32 × zSt) :=
  if x4 < 0 then
    some (x5, wI (wI S 16 y0) 17 ((zI S 17) + (nI 1)))
  else
    zld 20 x4 (zA S 29) (fun v2 =>
    zck 20 x4 (
    some (x5, wA (wI (wI S 16 y0) 17 ((zI S 17) + (nI 1))) 29 (x4.toNatClampNeg) (v2 + (nI 1)))))
def fX10_node_3 (k3 : Int32 × Int32 × Int32 × Int32 × Int32 × zSt → Option (Int32 × zSt)) (x1 : Int32) (x2 : Int32) (x3 : Int32) (x4 : Int32) (x5 : Int32) (S : zSt) : Option (Int32 × zSt) :=
  zld 400 x5 (zA S 24) (fun v1 =>
  if v1 = (nI 7) then
    zck 400 x5 (
    zck 400 x5 (
    zck 400 x5 (
    zck 400 x5 (
    if ((zI S 15) + (nI 1)) ≤ (zI S 16) then
      fX10_node_87 x4 x5 (zI S 16) (wI (wA (wA (wA (wA S 24 (x5.toNatClampNeg) x1) 25 (x5.toNatClampNeg) x2) 26 (x5.toNatClampNeg) x3) 27 (x5.toNatClampNeg) x4) 15 ((zI S 15) + (nI 1)))
    else
      fX10_node_87 x4 x5 ((zI S 15) + (nI 1)) (wI (wA (wA (wA (wA S 24 (x5.toNatClampNeg) x1) 25 (x5.toNatClampNeg) x2) 26 (x5.toNatClampNeg) x3) 27 (x5.toNatClampNeg) x4) 15 ((zI S 15) + (nI 1)))))))
  else
    k3 (x1, x2, x3, x4, (x5 + (nI 1)), S))
def fX10_node_3L (n : Nat) (a : Int32 × Int32 × Int32 × Int32 × Int32 × zSt) : Option (Int32 × zSt) := zfix (fun k3 a => fX10_node_3 k3 a.1 a.2.1 a.2.2.1 a.2.2.2.1 a.2.2.2.2.1 a.2.2.2.2.2) n a
def fX10_node (a1 : Int32) (a2 : Int32) (a3 : Int32) (a4 : Int32) (S : zSt) : Option (Int32 × zSt) :=
  fX10_node_3L zFU (a1, a2, a3, a4, (nI 0), S)

def fX10_begin_70 (k70 : Int32 × Int32 × zSt → Option (Unit × zSt)) (x1 : Int32) (x2 : Int32) (S : zSt) : Option (Unit × zSt) :=
  if (zI S 8) ≤ x2 then
    zck 600 (nI 0) (
    zck 601 (nI 0) (
    some ((), wI (wI (wI (wA (wI (wA (wI S 18 (nI 1)) 30 ((nI 0).toNatClampNeg) x1) 19 (nI 1)) 31 ((nI 0).toNatClampNeg) (nI 0)) 20 (nI 0)) 21 (nI 0)) 22 (nI 0))))
  else
    zbd (fX10_node (nI 2) x2 (-3 : Int32) (-3 : Int32) S) (fun r1 S2 =>
    zld 21 x2 (zB S2 3) (fun v3 =>
    if (lg_cmp v3 (1835100526 : Int64)) = 0 then
      k70 (r1, (x2 + (nI 1)), S2)
    else
      k70 (x1, (x2 + (nI 1)), S2)))
def fX10_begin_70L (n : Nat) (a : Int32 × Int32 × zSt) : Option (Unit × zSt) := zfix (fun k70 a => fX10_begin_70 k70 a.1 a.2.1 a.2.2) n a
def fX10_begin_40 (k40 : Int32 × zSt → Option (Unit × zSt)) (x1 : Int32) (S : zSt) : Option (Unit × zSt) :=
  if (nI 20) ≤ x1 then
    fX10_begin_70L zFU ((nI 0), (nI 0), S)
  else
    zck 20 x1 (
    zck 20 x1 (
    k40 ((x1 + (nI 1)), wA (wA S 28 (x1.toNatClampNeg) (nI 0)) 29 (x1.toNatClampNeg) (nI 0))))
def fX10_begin_40L (n : Nat) (a : Int32 × zSt) : Option (Unit × zSt) := zfix (fun k40 a => fX10_begin_40 k40 a.1 a.2) n a
def fX10_begin_2 (k2 : Int32 × zSt → Option (Unit × zSt)) (x1 : Int32) (S : zSt) : Option (Unit × zSt) :=
  if (nI 400) ≤ x1 then
    fX10_begin_40L zFU ((nI 0), wI (wI (wI S 15 (nI 0)) 16 (nI 0)) 17 (nI 0))
  else
    zck 400 x1 (
    k2 ((x1 + (nI 1)), wA S 24 (x1.toNatClampNeg) (nI 7)))
def fX10_begin_2L (n : Nat) (a : Int32 × zSt) : Option (Unit × zSt) := zfix (fun k2 a => fX10_begin_2 k2 a.1 a.2) n a
def fX10_begin (S : zSt) : Option (Unit × zSt) :=
  fX10_begin_2L zFU ((nI 0), S)

def fX10_read_162 (y0 : Int32) (S : zSt) : Option (Int32 × zSt) :=
  zbo y0 (
  if y0 = 0 then
    some (((-10 : Int32) - (zI S 7)), wI (wI (wI S 24 y0) 25 (nI 0)) 23 (-1 : Int32))
  else
    zbd (fX10_begin (wI (wI (wI S 24 y0) 25 (nI 0)) 23 (-1 : Int32))) (fun _ S14 =>
    some ((zI S14 8), S14)))
def fX10_read_144 (S : zSt) : Option (Int32 × zSt) :=
  if (zI S 6) = 0 then
    fX10_read_162 (nI 1) (wI S 1 (nI 0))
  else
    fX10_read_162 (nI 0) (wI S 1 (nI 0))
def fX10_read_84 (k84 : Int32 × Int32 × zSt → Option (Int32 × zSt)) (x1 : Int32) (x2 : Int32) (S : zSt) : Option (Int32 × zSt) :=
  if (zI S 8) ≤ x2 then
    if x1 = 0 then
      zbd (fX10_fail (nI 6) (zI S 1) S) (fun _ S10 =>
      fX10_read_144 S10)
    else
      fX10_read_144 S
  else
    if x1 = 0 then
      zld 21 x2 (zB S 3) (fun v11 =>
      if (lg_cmp v11 (1835100526 : Int64)) = 0 then
        zld 21 x2 (zA S 4) (fun v12 =>
        if v12 = 0 then
          k84 ((nI 1), (x2 + (nI 1)), S)
        else
          k84 ((nI 0), (x2 + (nI 1)), S))
      else
        k84 ((nI 0), (x2 + (nI 1)), S))
    else
      k84 ((nI 1), (x2 + (nI 1)), S)
def fX10_read_84L (n : Nat) (a : Int32 × Int32 × zSt) : Option (Int32 × zSt) := zfix (fun k84 a => fX10_read_84 k84 a.1 a.2.1 a.2.2) n a
def fX10_read_80 (S : zSt) : Option (Int32 × zSt) :=
  fX10_read_84L zFU ((nI 0), (nI 0), S)
def fX10_read_69 (S : zSt) : Option (Int32 × zSt) :=
  if (zI S 6) = 0 then
    zbd (fX10_resolve S) (fun _ S8 =>
    fX10_read_80 S8)
  else
    fX10_read_80 S
def fX10_read_48 (k48 : zSt → Option (Int32 × zSt)) (S : zSt) : Option (Int32 × zSt) :=
  if (zI S 6) = 0 then
    if (zI S 2) = 0 then
      fX10_read_69 S
    else
      zbd (fX10_definition S) (fun _ S6 =>
      k48 S6)
  else
    fX10_read_69 S
def fX10_read_48L (n : Nat) (a : zSt) : Option (Int32 × zSt) := zfix (fun k48 a => fX10_read_48 k48 a) n a
def fX10_read (S : zSt) : Option (Int32 × zSt) :=
  zbd (fX10_token (wI (wI (wI (wI (wI (wI (wI (wI S 0 (nI 0)) 8 (nI 0)) 9 (nI 0)) 10 (nI 0)) 11 (nI 0)) 13 (nI 0)) 4 (nI 0)) 6 (nI 0))) (fun _ S2 =>
  zbd (fX10_definition S2) (fun _ S4 =>
  fX10_read_48L zFU S4))

def fX10_fault (S : zSt) : Option (Int32 × zSt) :=
  some ((zI S 6), wI S 0 (nI 0))

def fX10_followed_35 (x2 : Int32) (S : zSt) : Option (Int32 × zSt) :=
  zld 400 x2 (zA S 24) (fun v3 =>
  if v3 = (nI 6) then
    some ((-1 : Int32), S)
  else
    some (x2, S))
def fX10_followed_4 (k4 : Int32 × Int32 × zSt → Option (Int32 × zSt)) (x2 : Int32) (x3 : Int32) (S : zSt) : Option (Int32 × zSt) :=
  if (nI 400) < x3 then
    fX10_followed_35 x2 S
  else
    zld 400 x2 (zA S 24) (fun v1 =>
    if v1 = (nI 6) then
      zld 400 x2 (zA S 25) (fun v2 =>
      k4 (v2, (x3 + (nI 1)), S))
    else
      fX10_followed_35 x2 S)
def fX10_followed_4L (n : Nat) (a : Int32 × Int32 × zSt) : Option (Int32 × zSt) := zfix (fun k4 a => fX10_followed_4 k4 a.1 a.2.1 a.2.2) n a
def fX10_followed (a1 : Int32) (S : zSt) : Option (Int32 × zSt) :=
  fX10_followed_4L zFU (a1, (nI 0), S)

def fX10_wants (a0 : Int32) (S : zSt) : Option (Int32 × zSt) :=
  if a0 = (nI 6) then
    some ((nI 3), S)
  else
    if a0 ≤ (nI 8) then
      some ((nI 2), S)
    else
      if (nI 12) ≤ a0 then
        some ((nI 2), S)
      else
        some ((nI 1), S)

def fX10_isValue_41 (x2 : Int32) (x3 : Int32) (S : zSt) : Option (Int32 × zSt) :=
  if x2 < 0 then
    some ((nI 0), S)
  else
    zld 400 x2 (zA S 24) (fun v5 =>
    if v5 = (nI 1) then
      some ((nI 0), S)
    else
      zld 400 x2 (zA S 24) (fun v6 =>
      if v6 = (nI 2) then
        zld 400 x2 (zA S 25) (fun v11 =>
        zld 21 v11 (zA S 4) (fun v12 =>
        if v12 ≤ x3 then
          some ((nI 0), S)
        else
          some ((nI 1), S)))
      else
        zld 400 x2 (zA S 24) (fun v7 =>
        if v7 = (nI 3) then
          zld 400 x2 (zA S 25) (fun v8 =>
          zbd (fX10_wants v8 S) (fun r9 S10 =>
          if r9 ≤ x3 then
            some ((nI 0), S10)
          else
            some ((nI 1), S10)))
        else
          if x3 = 0 then
            some ((nI 1), S)
          else
            some ((nI 0), S))))
def fX10_isValue_4 (k4 : Int32 × Int32 × zSt → Option (Int32 × zSt)) (x2 : Int32) (x3 : Int32) (S : zSt) : Option (Int32 × zSt) :=
  if x2 < 0 then
    fX10_isValue_41 x2 x3 S
  else
    zld 400 x2 (zA S 24) (fun v1 =>
    if v1 = (nI 1) then
      if (nI 10) ≤ x3 then
        fX10_isValue_41 x2 x3 S
      else
        zld 400 x2 (zA S 25) (fun v2 =>
        zbd (fX10_followed v2 S) (fun r3 S4 =>
        k4 (r3, (x3 + (nI 1)), S4)))
    else
      fX10_isValue_41 x2 x3 S)
def fX10_isValue_4L (n : Nat) (a : Int32 × Int32 × zSt) : Option (Int32 × zSt) := zfix (fun k4 a => fX10_isValue_4 k4 a.1 a.2.1 a.2.2) n a
def fX10_isValue (a1 : Int32) (S : zSt) : Option (Int32 × zSt) :=
  fX10_isValue_4L zFU (a1, (nI 0), S)

def fX10_size (S : zSt) : Option (Int32 × zSt) :=
  zld 601 ((zI S 19) - (nI 1)) (zA S 31) (fun v1 =>
  some (((zI S 18) - v1), S))

def fX10_topNode (S : zSt) : Option (Int32 × zSt) :=
  zld 600 ((zI S 18) - (nI 1)) (zA S 30) (fun v1 =>
  some (v1, S))

def fX10_thing (a1 : Int32) (S : zSt) : Option (Int32 × zSt) :=
  zld 600 (((zI S 18) - (nI 1)) - a1) (zA S 30) (fun v1 =>
  zld 400 v1 (zA S 26) (fun v2 =>
  some (v2, S)))

def fX10_lookPrimitive_63 (k63 : Int32 × Int32 × zSt → Option (Int32 × zSt)) (x4 : Int32) (x5 : Int32) (S : zSt) : Option (Int32 × zSt) :=
  if (zI S 19) ≤ x5 then
    if (zI S 27) ≤ 0 then
      some ((nI 3), wI S 26 x4)
    else
      some ((nI 7), wI S 26 x4)
  else
    zld 601 x5 (zA S 31) (fun v15 =>
    zld 600 v15 (zA S 30) (fun v16 =>
    if v16 = x4 then
      k63 (x4, (x5 + (nI 1)), wI S 27 (nI 5))
    else
      k63 (x4, (x5 + (nI 1)), wI S 27 (zI S 27))))
def fX10_lookPrimitive_63L (n : Nat) (a : Int32 × Int32 × zSt) : Option (Int32 × zSt) := zfix (fun k63 a => fX10_lookPrimitive_63 k63 a.1 a.2.1 a.2.2) n a
def fX10_lookPrimitive_184 (k22 : Int32 × Int32 × Int32 × zSt → Option (Int32 × zSt)) (x1 : Int32) (x2 : Int32) (x3 : Int32) (y0 : Int32) (S : zSt) : Option (Int32 × zSt) :=
  if y0 = 0 then
    some ((nI 7), wI S 27 (nI 2))
  else
    k22 (x1, x2, (x3 + (nI 1)), S)
def fX10_lookPrimitive_179 (k22 : Int32 × Int32 × Int32 × zSt → Option (Int32 × zSt)) (x1 : Int32) (x2 : Int32) (x3 : Int32) (S : zSt) : Option (Int32 × zSt) :=
  fX10_lookPrimitive_184 k22 x1 x2 x3 (nI 1) S
def fX10_lookPrimitive_270 (S : zSt) : Option (Int32 × zSt) :=
  if (zI S 27) ≤ 0 then
    some ((nI 4), S)
  else
    some ((nI 7), S)
def fX10_lookPrimitive_247 (S : zSt) : Option (Int32 × zSt) :=
  zbd (fX10_thing (nI 1) S) (fun r17 S18 =>
  zbd (fX10_followed r17 S18) (fun r19 S20 =>
  zld 400 r19 (zA S20 24) (fun v21 =>
  if v21 = (nI 5) then
    fX10_lookPrimitive_270 (wI S20 27 (nI 4))
  else
    fX10_lookPrimitive_270 S20)))
def fX10_lookPrimitive_235 (x1 : Int32) (S : zSt) : Option (Int32 × zSt) :=
  if x1 = (nI 9) then
    fX10_lookPrimitive_247 S
  else
    if x1 = (nI 10) then
      fX10_lookPrimitive_247 S
    else
      fX10_lookPrimitive_270 S
def fX10_lookPrimitive_22 (k22 : Int32 × Int32 × Int32 × zSt → Option (Int32 × zSt)) (x1 : Int32) (x2 : Int32) (x3 : Int32) (S : zSt) : Option (Int32 × zSt) :=
  if x2 < x3 then
    if x1 = (nI 3) then
      zbd (fX10_thing (nI 2) S) (fun r1 S2 =>
      zbd (fX10_followed r1 S2) (fun r3 S4 =>
      zld 400 r3 (zA S4 25) (fun v5 =>
      if v5 = 0 then
        fX10_lookPrimitive_270 (wI S4 27 (nI 3))
      else
        fX10_lookPrimitive_235 x1 S4)))
    else
      fX10_lookPrimitive_235 x1 S
  else
    zbd (fX10_thing x3 S) (fun r6 S7 =>
    zbd (fX10_followed r6 S7) (fun r8 S9 =>
    if 0 ≤ r8 then
      zbd (fX10_isValue r8 S9) (fun r10 S11 =>
      if r10 = 0 then
        fX10_lookPrimitive_63L zFU (r8, (nI 0), S11)
      else
        if (nI 7) ≤ x1 then
          if x1 = (nI 12) then
            fX10_lookPrimitive_179 k22 x1 x2 x3 S11
          else
            zld 400 r8 (zA S11 24) (fun v12 =>
            if v12 = (nI 4) then
              fX10_lookPrimitive_179 k22 x1 x2 x3 S11
            else
              zld 400 r8 (zA S11 24) (fun v13 =>
              if v13 = (nI 5) then
                fX10_lookPrimitive_179 k22 x1 x2 x3 S11
              else
                fX10_lookPrimitive_184 k22 x1 x2 x3 (nI 0) S11))
        else
          zld 400 r8 (zA S11 24) (fun v14 =>
          if v14 = 0 then
            fX10_lookPrimitive_184 k22 x1 x2 x3 (nI 1) S11
          else
            fX10_lookPrimitive_184 k22 x1 x2 x3 (nI 0) S11))
    else
      some ((nI 7), wI S9 27 (nI 5))))
def fX10_lookPrimitive_22L (n : Nat) (a : Int32 × Int32 × Int32 × zSt) : Option (Int32 × zSt) := zfix (fun k22 a => fX10_lookPrimitive_22 k22 a.1 a.2.1 a.2.2.1 a.2.2.2) n a
def fX10_lookPrimitive (a1 : Int32) (S : zSt) : Option (Int32 × zSt) :=
  if a1 = (nI 7) then
    some ((nI 4), S)
  else
    if (nI 6) ≤ a1 then
      fX10_lookPrimitive_22L zFU (a1, (nI 1), (nI 1), S)
    else
      fX10_lookPrimitive_22L zFU (a1, (nI 2), (nI 1), S)

def fX10_look (S : zSt) : Option (Int32 × zSt) :=
  zbd (fX10_topNode S) (fun r1 S2 =>
  zbd (fX10_size S2) (fun r3 S4 =>
  zld 400 r1 (zA S4 24) (fun v5 =>
  if v5 = (nI 1) then
    some ((nI 1), wI (wI S4 26 (-1 : Int32)) 27 (nI 0))
  else
  if v5 = (nI 2) then
    zld 400 r1 (zA S4 25) (fun v6 =>
    zld 21 v6 (zA S4 4) (fun v7 =>
    if (r3 - (nI 1)) < v7 then
      if (zI S4 19) ≤ (nI 1) then
        some ((nI 6), wI (wI S4 26 (-1 : Int32)) 27 (nI 0))
      else
        some ((nI 5), wI (wI S4 26 (-1 : Int32)) 27 (nI 0))
    else
      some ((nI 2), wI (wI S4 26 (-1 : Int32)) 27 (nI 0))))
  else
  if v5 = (nI 3) then
    zld 400 r1 (zA S4 25) (fun v8 =>
    zbd (fX10_wants v8 (wI (wI S4 26 (-1 : Int32)) 27 (nI 0))) (fun r9 S10 =>
    if (r3 - (nI 1)) < r9 then
      if (zI S10 19) ≤ (nI 1) then
        some ((nI 6), S10)
      else
        some ((nI 5), S10)
    else
      zld 400 r1 (zA S10 25) (fun v11 =>
      zbd (fX10_lookPrimitive v11 S10) (fun r12 S13 =>
      some (r12, S13)))))
  else
  if v5 = (nI 6) then
    some ((nI 0), wI (wI S4 26 (-1 : Int32)) 27 (nI 0))
  else
  if (r3 - (nI 1)) ≤ 0 then
    if (zI S4 19) ≤ (nI 1) then
      some ((nI 6), wI (wI S4 26 (-1 : Int32)) 27 (nI 0))
    else
      some ((nI 5), wI (wI S4 26 (-1 : Int32)) 27 (nI 0))
  else
    some ((nI 7), wI (wI (wI S4 26 (-1 : Int32)) 27 (nI 0)) 27 (nI 1)))))

def fX10_isFull_22 (S : zSt) : Option (Int32 × zSt) :=
  if (zI S 18) = (nI 600) then
    some ((nI 1), S)
  else
    some ((nI 0), S)
def fX10_isFull (a1 : Int32) (S : zSt) : Option (Int32 × zSt) :=
  if (zI S 20) = (nI 5000) then
    some ((nI 1), S)
  else
    if a1 = (nI 1) then
      fX10_isFull_22 S
    else
      if a1 = (nI 3) then
        fX10_isFull_22 S
      else
        if a1 = (nI 2) then
          zbd (fX10_topNode S) (fun r1 S2 =>
          zld 400 r1 (zA S2 25) (fun v3 =>
          zld 21 v3 (zA S2 8) (fun v4 =>
          if ((zI S 15) + v4) ≤ (nI 400) then
            some ((nI 0), S2)
          else
            some ((nI 1), S2))))
        else
          some ((nI 0), S)

def fX10_become (a1 : Int32) (a2 : Int32) (a3 : Int32) (a4 : Int32) (S : zSt) : Option (Unit × zSt) :=
  zck 400 a1 (
  zck 400 a1 (
  zck 400 a1 (
  some ((), wA (wA (wA S 24 (a1.toNatClampNeg) a2) 25 (a1.toNatClampNeg) a3) 26 (a1.toNatClampNeg) a4))))

def fX10_build_236 (k27 : Int32 × Int32 × Int32 × Int32 × zSt → Option (Unit × zSt)) (k236 : Int32 × Int32 × Int32 × Int32 × Int32 × Int32 × Int32 × zSt → Option (Unit × zSt)) (x1 : Int32) (x2 : Int32) (x3 : Int32) (x4 : Int32) (x5 : Int32) (x6 : Int32) (x7 : Int32) (S : zSt) : Option (Unit × zSt) :=
  if x5 ≤ x7 then
    zck 600 x2 (
    k27 (x1, (x2 + (nI 1)), x3, (x4 + (nI 1)), wA S 33 (x2.toNatClampNeg) x6))
  else
    zld 600 (x2 + x7) (zA S 33) (fun v31 =>
    zbd (fX10_node (nI 1) x6 v31 x1 S) (fun r32 S33 =>
    k236 (x1, x2, x3, x4, x5, r32, (x7 + (nI 1)), S33)))
def fX10_build_236L (k27 : Int32 × Int32 × Int32 × Int32 × zSt → Option (Unit × zSt)) (n : Nat) (a : Int32 × Int32 × Int32 × Int32 × Int32 × Int32 × Int32 × zSt) : Option (Unit × zSt) := zfix (fun k236 a => fX10_build_236 k27 k236 a.1 a.2.1 a.2.2.1 a.2.2.2.1 a.2.2.2.2.1 a.2.2.2.2.2.1 a.2.2.2.2.2.2.1 a.2.2.2.2.2.2.2) n a
def fX10_build_285 (k27 : Int32 × Int32 × Int32 × Int32 × zSt → Option (Unit × zSt)) (k285 : Int32 × Int32 × Int32 × Int32 × Int32 × Int32 × zSt → Option (Unit × zSt)) (x1 : Int32) (x2 : Int32) (x3 : Int32) (x4 : Int32) (x5 : Int32) (x7 : Int32) (S : zSt) : Option (Unit × zSt) :=
  if (zI S 11) ≤ x7 then
    k27 (x1, x2, x3, (x4 + (nI 1)), S)
  else
    zld 300 x7 (zA S 22) (fun v26 =>
    if v26 = x5 then
      zbd (fX10_node (nI 6) (nI 0) (-3 : Int32) x1 S) (fun r27 S28 =>
      zck 300 x7 (
      zld 300 x7 (upd (zA S28 34) (x7.toNatClampNeg) r27) (fun v29 =>
      zld 300 x7 (upd (zA S28 34) (x7.toNatClampNeg) r27) (fun v30 =>
      zck 400 v29 (
      k285 (x1, x2, x3, x4, x5, (x7 + (nI 1)), wA (wA S28 34 (x7.toNatClampNeg) r27) 25 (v29.toNatClampNeg) v30))))))
    else
      k285 (x1, x2, x3, x4, x5, (x7 + (nI 1)), S))
def fX10_build_285L (k27 : Int32 × Int32 × Int32 × Int32 × zSt → Option (Unit × zSt)) (n : Nat) (a : Int32 × Int32 × Int32 × Int32 × Int32 × Int32 × zSt) : Option (Unit × zSt) := zfix (fun k285 a => fX10_build_285 k27 k285 a.1 a.2.1 a.2.2.1 a.2.2.2.1 a.2.2.2.2.1 a.2.2.2.2.2.1 a.2.2.2.2.2.2) n a
def fX10_build_27 (k27 : Int32 × Int32 × Int32 × Int32 × zSt → Option (Unit × zSt)) (x1 : Int32) (x2 : Int32) (x3 : Int32) (x4 : Int32) (S : zSt) : Option (Unit × zSt) :=
  zld 21 x1 (zA S 7) (fun v4 =>
  if v4 ≤ x4 then
    zld 600 (((zI S 18) - (nI 1)) - x3) (zA S 30) (fun v5 =>
    zld 600 (nI 0) (zA S 33) (fun v6 =>
    zbd (fX10_become v5 (nI 6) v6 (-3 : Int32) S) (fun _ S8 =>
    zld 600 (nI 0) (zA S8 33) (fun v9 =>
    zck 600 (((zI S8 18) - x3) - (nI 1)) (
    some ((), wA (wI S8 18 ((zI S8 18) - x3)) 30 ((((zI S8 18) - x3) - (nI 1)).toNatClampNeg) v9))))))
  else
    zld 1700 x4 (zA S 10) (fun v10 =>
    zld 1700 x4 (zA S 9) (fun v11 =>
    if v11 = (nI 1) then
      zbd (fX10_node (nI 0) v10 (-3 : Int32) x1 S) (fun r12 S13 =>
      zck 600 x2 (
      k27 (x1, (x2 + (nI 1)), x3, (x4 + (nI 1)), wA S13 33 (x2.toNatClampNeg) r12)))
    else
    if v11 = (nI 2) then
      zbd (fX10_node (nI 5) (nI 0) (-3 : Int32) x1 S) (fun r14 S15 =>
      zck 600 x2 (
      k27 (x1, (x2 + (nI 1)), x3, (x4 + (nI 1)), wA S15 33 (x2.toNatClampNeg) r14)))
    else
    if v11 = (nI 3) then
      zbd (fX10_node (nI 3) v10 (-3 : Int32) x1 S) (fun r16 S17 =>
      zck 600 x2 (
      k27 (x1, (x2 + (nI 1)), x3, (x4 + (nI 1)), wA S17 33 (x2.toNatClampNeg) r16)))
    else
    if v11 = (nI 5) then
      zck 600 x2 (
      k27 (x1, (x2 + (nI 1)), x3, (x4 + (nI 1)), wA S 33 (x2.toNatClampNeg) v10))
    else
    if v11 = (nI 6) then
      zbd (fX10_thing v10 S) (fun r20 S21 =>
      zck 600 x2 (
      k27 (x1, (x2 + (nI 1)), x3, (x4 + (nI 1)), wA S21 33 (x2.toNatClampNeg) r20)))
    else
    if v11 = (nI 7) then
      zld 300 v10 (zA S 34) (fun v22 =>
      zck 600 x2 (
      k27 (x1, (x2 + (nI 1)), x3, (x4 + (nI 1)), wA S 33 (x2.toNatClampNeg) v22)))
    else
    if v11 = (nI 8) then
      zld 600 (x2 - v10) (zA S 33) (fun v23 =>
      fX10_build_236L k27 zFU (x1, (x2 - v10), x3, x4, v10, v23, (nI 1), S))
    else
    if v11 = (nI 9) then
      fX10_build_285L k27 zFU (x1, x2, x3, x4, v10, (nI 0), S)
    else
    zld 300 v10 (zA S 34) (fun v24 =>
    zld 600 (x2 + (-1 : Int32)) (zA S 33) (fun v25 =>
    zck 400 v24 (
    k27 (x1, (x2 + (-1 : Int32)), x3, (x4 + (nI 1)), wA S 25 (v24.toNatClampNeg) v25)))))))
def fX10_build_27L (n : Nat) (a : Int32 × Int32 × Int32 × Int32 × zSt) : Option (Unit × zSt) := zfix (fun k27 a => fX10_build_27 k27 a.1 a.2.1 a.2.2.1 a.2.2.2.1 a.2.2.2.2) n a
def fX10_build (a1 : Int32) (S : zSt) : Option (Unit × zSt) :=
  zld 21 a1 (zA S 4) (fun v1 =>
  zld 20 a1 (zA S 28) (fun v2 =>
  zck 20 a1 (
  zld 21 a1 (zA S 6) (fun v3 =>
  fX10_build_27L zFU (a1, (nI 0), v1, v3, wA S 28 (a1.toNatClampNeg) (v2 + (nI 1)))))))

def fX10_compute_415 (x2 : Int32) (x6 : Int32) (S : zSt) : Option (Unit × zSt) :=
  zck 600 (((zI S 18) - x2) - (nI 1)) (
  some ((), wA (wI S 18 ((zI S 18) - x2)) 30 ((((zI S 18) - x2) - (nI 1)).toNatClampNeg) x6))
def fX10_compute_272 (x2 : Int32) (x6 : Int32) (y0 : Int32) (y1 : Int32) (y2 : Int32) (S : zSt) : Option (Unit × zSt) :=
  zbd (fX10_become y2 y1 y0 (-3 : Int32) S) (fun _ S47 =>
  fX10_compute_415 x2 x6 S47)
def fX10_compute_296 (x2 : Int32) (x6 : Int32) (y0 : Int32) (y1 : Int32) (y2 : Int32) (S : zSt) : Option (Unit × zSt) :=
  zbd (fX10_become y2 y1 y0 (-3 : Int32) S) (fun _ S45 =>
  fX10_compute_415 x2 x6 S45)
def fX10_compute_321 (x2 : Int32) (x6 : Int32) (y0 : Int32) (y1 : Int32) (y2 : Int32) (S : zSt) : Option (Unit × zSt) :=
  zbd (fX10_become y2 y1 y0 (-3 : Int32) S) (fun _ S43 =>
  fX10_compute_415 x2 x6 S43)
def fX10_compute_395 (x2 : Int32) (x6 : Int32) (y0 : Int32) (y1 : Int32) (y2 : Int32) (S : zSt) : Option (Unit × zSt) :=
  zbd (fX10_become y2 y1 y0 (-3 : Int32) S) (fun _ S41 =>
  fX10_compute_415 x2 x6 S41)
def fX10_compute_123 (x1 : Int32) (x2 : Int32) (x3 : Int32) (x4 : Int32) (x5 : Int32) (x6 : Int32) (x7 : Int32) (y0 : Int32) (S : zSt) : Option (Unit × zSt) :=
  if x1 = (nI 0) then
    zbd (fX10_become x6 (nI 0) (x7 + y0) (-3 : Int32) S) (fun _ S21 =>
    fX10_compute_415 x2 x6 S21)
  else
  if x1 = (nI 1) then
    zbd (fX10_become x6 (nI 0) (x7 - y0) (-3 : Int32) S) (fun _ S23 =>
    fX10_compute_415 x2 x6 S23)
  else
  if x1 = (nI 2) then
    zbd (fX10_become x6 (nI 0) (x7 * y0) (-3 : Int32) S) (fun _ S25 =>
    fX10_compute_415 x2 x6 S25)
  else
  if x1 = (nI 3) then
    zdv y0 (
    zbd (fX10_become x6 (nI 0) (x7 / y0) (-3 : Int32) S) (fun _ S27 =>
    fX10_compute_415 x2 x6 S27))
  else
  if x1 = (nI 4) then
    if y0 ≤ x7 then
      fX10_compute_272 x2 x6 (nI 0) (nI 0) x6 S
    else
      fX10_compute_272 x2 x6 (nI 1) (nI 0) x6 S
  else
  if x1 = (nI 5) then
    if x7 = y0 then
      fX10_compute_296 x2 x6 (nI 1) (nI 0) x6 S
    else
      fX10_compute_296 x2 x6 (nI 0) (nI 0) x6 S
  else
  if x1 = (nI 6) then
    if x7 = 0 then
      fX10_compute_321 x2 x6 x5 (nI 6) x6 S
    else
      fX10_compute_321 x2 x6 x4 (nI 6) x6 S
  else
  if x1 = (nI 7) then
    zbd (fX10_become x6 (nI 4) x3 x4 S) (fun _ S29 =>
    fX10_compute_415 x2 x6 S29)
  else
  if x1 = (nI 9) then
    zbd (fX10_become x6 (nI 6) x7 (-3 : Int32) S) (fun _ S33 =>
    fX10_compute_415 x2 x6 S33)
  else
  if x1 = (nI 10) then
    zld 400 x3 (zA S 26) (fun v34 =>
    zbd (fX10_become x6 (nI 6) v34 (-3 : Int32) S) (fun _ S36 =>
    fX10_compute_415 x2 x6 S36))
  else
  if x1 = (nI 11) then
    zld 400 x3 (zA S 24) (fun v37 =>
    if v37 = (nI 5) then
      fX10_compute_395 x2 x6 (nI 1) (nI 0) x6 S
    else
      fX10_compute_395 x2 x6 (nI 0) (nI 0) x6 S)
  else
  zbd (fX10_become x6 (nI 6) x4 (-3 : Int32) S) (fun _ S39 =>
  fX10_compute_415 x2 x6 S39)
def fX10_compute_82 (x1 : Int32) (x2 : Int32) (x3 : Int32) (x4 : Int32) (y0 : Int32) (S : zSt) : Option (Unit × zSt) :=
  zld 600 (((zI S 18) - (nI 1)) - x2) (zA S 30) (fun v17 =>
  zld 400 x3 (zA S 25) (fun v18 =>
  if x2 ≤ (nI 1) then
    fX10_compute_123 x1 x2 x3 x4 y0 v17 v18 (nI 0) S
  else
    zld 400 x4 (zA S 25) (fun v19 =>
    fX10_compute_123 x1 x2 x3 x4 y0 v17 v18 v19 S)))
def fX10_compute_66 (x1 : Int32) (x2 : Int32) (x3 : Int32) (y0 : Int32) (S : zSt) : Option (Unit × zSt) :=
  if x2 ≤ (nI 2) then
    fX10_compute_82 x1 x2 x3 y0 (nI 0) S
  else
    zbd (fX10_thing (nI 3) S) (fun r15 S16 =>
    fX10_compute_82 x1 x2 x3 y0 r15 S16)
def fX10_compute_45 (x1 : Int32) (x2 : Int32) (x3 : Int32) (S : zSt) : Option (Unit × zSt) :=
  zbd (fX10_thing (nI 2) S) (fun r13 S14 =>
  fX10_compute_66 x1 x2 x3 r13 S14)
def fX10_compute_28 (x1 : Int32) (x2 : Int32) (y0 : Int32) (S : zSt) : Option (Unit × zSt) :=
  if x2 ≤ (nI 1) then
    fX10_compute_66 x1 x2 y0 (nI 0) S
  else
    if x1 = (nI 7) then
      fX10_compute_45 x1 x2 y0 S
    else
      if x1 ≤ (nI 5) then
        zbd (fX10_thing (nI 2) S) (fun r9 S10 =>
        zbd (fX10_followed r9 S10) (fun r11 S12 =>
        fX10_compute_66 x1 x2 y0 r11 S12))
      else
        fX10_compute_45 x1 x2 y0 S
def fX10_compute (a1 : Int32) (S : zSt) : Option (Unit × zSt) :=
  zbd (fX10_wants a1 S) (fun r1 S2 =>
  if a1 = (nI 7) then
    zbd (fX10_thing (nI 1) S2) (fun r7 S8 =>
    fX10_compute_28 a1 r1 r7 S8)
  else
    zbd (fX10_thing (nI 1) S2) (fun r3 S4 =>
    zbd (fX10_followed r3 S4) (fun r5 S6 =>
    fX10_compute_28 a1 r1 r5 S6)))

def fX10_stepOne_22 (y0 : Int32) (S : zSt) : Option (Int32 × zSt) :=
  some ((nI 0), wI (wI S 21 y0) 22 (zI S 27))
def fX10_stepOne (S : zSt) : Option (Int32 × zSt) :=
  zbd (fX10_look S) (fun r1 S2 =>
  if r1 ≤ (nI 5) then
    zbd (fX10_isFull r1 (wI S2 22 (nI 0))) (fun r3 S4 =>
    if r3 = 0 then
      zbd (fX10_topNode (wI (wI S4 21 (nI 0)) 20 ((zI S4 20) + (nI 1)))) (fun r5 S6 =>
      if r1 = (nI 0) then
        zld 400 r5 (zA S6 25) (fun v7 =>
        zck 600 ((zI S6 18) - (nI 1)) (
        some ((nI 1), wA S6 30 (((zI S6 18) - (nI 1)).toNatClampNeg) v7)))
      else
      if r1 = (nI 1) then
        zld 400 r5 (zA S6 25) (fun v8 =>
        zck 600 (zI S6 18) (
        some ((nI 1), wI (wA S6 30 ((zI S6 18).toNatClampNeg) v8) 18 ((zI S6 18) + (nI 1)))))
      else
      if r1 = (nI 2) then
        zld 400 r5 (zA S6 25) (fun v9 =>
        zbd (fX10_build v9 S6) (fun _ S11 =>
        some ((nI 1), S11)))
      else
      if r1 = (nI 3) then
        zck 601 (zI S6 19) (
        zck 600 (zI S6 18) (
        some ((nI 1), wI (wA (wI (wA S6 31 ((zI S6 19).toNatClampNeg) (zI S6 18)) 19 ((zI S6 19) + (nI 1))) 30 ((zI S6 18).toNatClampNeg) (zI S6 26)) 18 ((zI S6 18) + (nI 1)))))
      else
      if r1 = (nI 4) then
        zld 400 r5 (zA S6 25) (fun v12 =>
        zbd (fX10_compute v12 S6) (fun _ S14 =>
        some ((nI 1), S14)))
      else
      zld 601 ((zI S6 19) - (nI 1)) (zA S6 31) (fun v15 =>
      some ((nI 1), wI (wI S6 19 ((zI S6 19) - (nI 1))) 18 v15)))
    else
      some ((nI 0), wI S4 21 (nI 3)))
  else
    if r1 = (nI 6) then
      fX10_stepOne_22 (nI 1) S2
    else
      fX10_stepOne_22 (nI 2) S2)

def fX10_step_100 (k32 : Int32 × Int32 × Int32 × zSt → Option (Int32 × zSt)) (x1 : Int32) (x2 : Int32) (y0 : Int32) (S : zSt) : Option (Int32 × zSt) :=
  if y0 = 0 then
    k32 (x1, (x2 + (nI 0)), y0, S)
  else
    k32 (x1, (x2 + (nI 1)), y0, S)
def fX10_step_99 (k32 : Int32 × Int32 × Int32 × zSt → Option (Int32 × zSt)) (x1 : Int32) (x2 : Int32) (S : zSt) : Option (Int32 × zSt) :=
  fX10_step_100 k32 x1 x2 (nI 0) S
def fX10_step_76 (k32 : Int32 × Int32 × Int32 × zSt → Option (Int32 × zSt)) (x1 : Int32) (x2 : Int32) (y0 : Int32) (S : zSt) : Option (Int32 × zSt) :=
  if y0 = 0 then
    if x1 ≤ x2 then
      fX10_step_99 k32 x1 x2 S
    else
      zbd (fX10_stepOne S) (fun r8 S9 =>
      if r8 = 0 then
        fX10_step_99 k32 x1 x2 S9
      else
        fX10_step_100 k32 x1 x2 (nI 1) S9)
  else
    fX10_step_99 k32 x1 x2 S
def fX10_step_75 (k32 : Int32 × Int32 × Int32 × zSt → Option (Int32 × zSt)) (x1 : Int32) (x2 : Int32) (S : zSt) : Option (Int32 × zSt) :=
  fX10_step_76 k32 x1 x2 (nI 0) S
def fX10_step_32 (k32 : Int32 × Int32 × Int32 × zSt → Option (Int32 × zSt)) (x1 : Int32) (x2 : Int32) (x3 : Int32) (S : zSt) : Option (Int32 × zSt) :=
  if x3 = 0 then
    some (x2, S)
  else
    if x2 ≤ 0 then
      fX10_step_75 k32 x1 x2 S
    else
      if (zI S 23) < 0 then
        fX10_step_75 k32 x1 x2 S
      else
        zbd (fX10_look S) (fun r3 S4 =>
        if r3 = (nI 2) then
          zbd (fX10_topNode S4) (fun r5 S6 =>
          zld 400 r5 (zA S6 25) (fun v7 =>
          if v7 = (zI S6 23) then
            fX10_step_76 k32 x1 x2 (nI 1) S6
          else
            fX10_step_75 k32 x1 x2 S6))
        else
          fX10_step_75 k32 x1 x2 S4)
def fX10_step_32L (n : Nat) (a : Int32 × Int32 × Int32 × zSt) : Option (Int32 × zSt) := zfix (fun k32 a => fX10_step_32 k32 a.1 a.2.1 a.2.2.1 a.2.2.2) n a
def fX10_step (a1 : Int32) (S : zSt) : Option (Int32 × zSt) :=
  if (zI S 24) = 0 then
    some ((-3 : Int32), wI S 0 (nI 0))
  else
    zbd (fX10_in a1 (nI 1) (nI 2000) (wI S 0 (nI 0))) (fun r1 S2 =>
    if r1 = 0 then
      some ((-1 : Int32), S2)
    else
      fX10_step_32L zFU (a1, (nI 0), (nI 1), S2))

def fX10_state (S : zSt) : Option (Int32 × zSt) :=
  if (zI S 24) = 0 then
    some ((-3 : Int32), wI S 0 (nI 0))
  else
    some ((zI S 21), wI S 0 (nI 0))

def fX10_error (S : zSt) : Option (Int32 × zSt) :=
  if (zI S 24) = 0 then
    some ((-3 : Int32), wI S 0 (nI 0))
  else
    some ((zI S 22), wI S 0 (nI 0))

def fX10_next (S : zSt) : Option (Int32 × zSt) :=
  if (zI S 24) = 0 then
    some ((-3 : Int32), wI S 0 (nI 0))
  else
    zbd (fX10_look (wI S 0 (nI 0))) (fun r1 S2 =>
    some (r1, S2))

def fX10_stopAt (a1 : Int32) (S : zSt) : Option (Int32 × zSt) :=
  if (zI S 24) = 0 then
    some ((-3 : Int32), wI S 0 (nI 0))
  else
    zbd (fX10_in a1 (-1 : Int32) ((zI S 8) - (nI 1)) (wI S 0 (nI 0))) (fun r1 S2 =>
    if r1 = 0 then
      some ((-1 : Int32), S2)
    else
      some ((zI S2 23), wI S2 23 a1))

def fX10_fields (a0 : Int32) (S : zSt) : Option (Int32 × zSt) :=
  if a0 = (nI 1) then
    some ((nI 2), S)
  else
    if a0 = (nI 4) then
      some ((nI 2), S)
    else
      if a0 = (nI 6) then
        some ((nI 1), S)
      else
        some ((nI 0), S)

def fX10_keep (a1 : Int32) (S : zSt) : Option (Unit × zSt) :=
  zld 400 a1 (zA S 35) (fun v1 =>
  if v1 = 0 then
    zck 400 a1 (
    zck 400 (zI S 28) (
    some ((), wI (wA (wA S 35 (a1.toNatClampNeg) (vp_nar .boolean (nI 1))) 36 ((zI S 28).toNatClampNeg) a1) 28 ((zI S 28) + (nI 1)))))
  else
    some ((), S))

def fX10_findKept_113 (k76 : Int32 × zSt → Option (Int32 × zSt)) (x1 : Int32) (x2 : Int32) (S : zSt) : Option (Int32 × zSt) :=
  zld 400 x2 (zA S 24) (fun v13 =>
  zbd (fX10_fields v13 S) (fun r14 S15 =>
  if r14 ≤ (nI 1) then
    k76 ((x1 + (nI 1)), S15)
  else
    zld 400 x2 (zA S15 26) (fun v16 =>
    zbd (fX10_keep v16 S15) (fun _ S18 =>
    k76 ((x1 + (nI 1)), S18)))))
def fX10_findKept_76 (k76 : Int32 × zSt → Option (Int32 × zSt)) (x1 : Int32) (S : zSt) : Option (Int32 × zSt) :=
  if (zI S 28) ≤ x1 then
    some ((zI S 28), S)
  else
    zld 400 x1 (zA S 36) (fun v6 =>
    zld 400 v6 (zA S 24) (fun v7 =>
    zbd (fX10_fields v7 S) (fun r8 S9 =>
    if r8 ≤ 0 then
      fX10_findKept_113 k76 x1 v6 S9
    else
      zld 400 v6 (zA S9 25) (fun v10 =>
      zbd (fX10_keep v10 S9) (fun _ S12 =>
      fX10_findKept_113 k76 x1 v6 S12)))))
def fX10_findKept_76L (n : Nat) (a : Int32 × zSt) : Option (Int32 × zSt) := zfix (fun k76 a => fX10_findKept_76 k76 a.1 a.2) n a
def fX10_findKept_50 (k50 : Int32 × zSt → Option (Int32 × zSt)) (x1 : Int32) (S : zSt) : Option (Int32 × zSt) :=
  if (zI S 18) ≤ x1 then
    fX10_findKept_76L zFU ((nI 0), S)
  else
    zld 600 x1 (zA S 30) (fun v3 =>
    zbd (fX10_keep v3 S) (fun _ S5 =>
    k50 ((x1 + (nI 1)), S5)))
def fX10_findKept_50L (n : Nat) (a : Int32 × zSt) : Option (Int32 × zSt) := zfix (fun k50 a => fX10_findKept_50 k50 a.1 a.2) n a
def fX10_findKept_29 (k29 : Int32 × zSt → Option (Int32 × zSt)) (x1 : Int32) (S : zSt) : Option (Int32 × zSt) :=
  if (zI S 8) ≤ x1 then
    fX10_findKept_50L zFU ((nI 0), S)
  else
    zbd (fX10_keep x1 S) (fun _ S2 =>
    k29 ((x1 + (nI 1)), S2))
def fX10_findKept_29L (n : Nat) (a : Int32 × zSt) : Option (Int32 × zSt) := zfix (fun k29 a => fX10_findKept_29 k29 a.1 a.2) n a
def fX10_findKept_2 (k2 : Int32 × zSt → Option (Int32 × zSt)) (x1 : Int32) (S : zSt) : Option (Int32 × zSt) :=
  if (nI 400) ≤ x1 then
    fX10_findKept_29L zFU ((nI 0), wI S 28 (nI 0))
  else
    zck 400 x1 (
    k2 ((x1 + (nI 1)), wA S 35 (x1.toNatClampNeg) (vp_nar .boolean (nI 0))))
def fX10_findKept_2L (n : Nat) (a : Int32 × zSt) : Option (Int32 × zSt) := zfix (fun k2 a => fX10_findKept_2 k2 a.1 a.2) n a
def fX10_findKept (S : zSt) : Option (Int32 × zSt) :=
  fX10_findKept_2L zFU ((nI 0), S)

def fX10_sweepAll_9 (k9 : Int32 × Int32 × zSt → Option (Int32 × zSt)) (x2 : Int32) (x3 : Int32) (S : zSt) : Option (Int32 × zSt) :=
  if (nI 400) ≤ x3 then
    some (x2, wI S 15 ((zI S 15) - x2))
  else
    zld 400 x3 (zA S 24) (fun v3 =>
    if v3 = (nI 7) then
      k9 (x2, (x3 + (nI 1)), S)
    else
      zld 400 x3 (zA S 35) (fun v4 =>
      if v4 = 0 then
        zck 400 x3 (
        k9 ((x2 + (nI 1)), (x3 + (nI 1)), wA S 24 (x3.toNatClampNeg) (nI 7)))
      else
        k9 (x2, (x3 + (nI 1)), S)))
def fX10_sweepAll_9L (n : Nat) (a : Int32 × Int32 × zSt) : Option (Int32 × zSt) := zfix (fun k9 a => fX10_sweepAll_9 k9 a.1 a.2.1 a.2.2) n a
def fX10_sweepAll (S : zSt) : Option (Int32 × zSt) :=
  zbd (fX10_findKept S) (fun r1 S2 =>
  fX10_sweepAll_9L zFU ((nI 0), (nI 0), S2))

def fX10_back_133 (k81 : Int32 × Int32 × Int32 × zSt → Option (Int32 × zSt)) (x2 : Int32) (x4 : Int32) (y0 : Int32) (S : zSt) : Option (Int32 × zSt) :=
  if y0 = 0 then
    k81 (x2, x4, y0, S)
  else
    zbd (fX10_stepOne S) (fun r9 S10 =>
    if r9 = 0 then
      k81 (x2, x4, y0, S10)
    else
      k81 (x2, x4, y0, S10))
def fX10_back_120 (k81 : Int32 × Int32 × Int32 × zSt → Option (Int32 × zSt)) (x2 : Int32) (x4 : Int32) (S : zSt) : Option (Int32 × zSt) :=
  if x2 ≤ (zI S 20) then
    fX10_back_133 k81 x2 x4 (nI 0) S
  else
    fX10_back_133 k81 x2 x4 (nI 1) S
def fX10_back_86 (k81 : Int32 × Int32 × Int32 × zSt → Option (Int32 × zSt)) (k86 : Int32 × Int32 × zSt → Option (Int32 × zSt)) (x2 : Int32) (x4 : Int32) (S : zSt) : Option (Int32 × zSt) :=
  if (zI S 25) ≤ x4 then
    fX10_back_120 k81 x2 x4 S
  else
    zld 600 x4 (zA S 32) (fun v6 =>
    if v6 = (zI S 20) then
      zbd (fX10_sweepAll S) (fun r7 S8 =>
      k86 (x2, (x4 + (nI 1)), S8))
    else
      fX10_back_120 k81 x2 x4 S)
def fX10_back_86L (k81 : Int32 × Int32 × Int32 × zSt → Option (Int32 × zSt)) (n : Nat) (a : Int32 × Int32 × zSt) : Option (Int32 × zSt) := zfix (fun k86 a => fX10_back_86 k81 k86 a.1 a.2.1 a.2.2) n a
def fX10_back_157 (S : zSt) : Option (Int32 × zSt) :=
  some ((zI S 20), wI (wI S 21 (nI 0)) 22 (nI 0))
def fX10_back_81 (k81 : Int32 × Int32 × Int32 × zSt → Option (Int32 × zSt)) (x2 : Int32) (x4 : Int32) (x5 : Int32) (S : zSt) : Option (Int32 × zSt) :=
  if x5 = 0 then
    fX10_back_157 S
  else
    fX10_back_86L k81 zFU (x2, x4, S)
def fX10_back_81L (n : Nat) (a : Int32 × Int32 × Int32 × zSt) : Option (Int32 × zSt) := zfix (fun k81 a => fX10_back_81 k81 a.1 a.2.1 a.2.2.1 a.2.2.2) n a
def fX10_back_62 (x1 : Int32) (x2 : Int32) (x3 : Int32) (S : zSt) : Option (Int32 × zSt) :=
  if x1 ≤ 0 then
    fX10_back_157 S
  else
    zbd (fX10_begin S) (fun _ S5 =>
    fX10_back_81L zFU (x2, (nI 0), (nI 1), wI S5 25 x3))
def fX10_back_38 (k38 : Int32 × Int32 × Int32 × zSt → Option (Int32 × zSt)) (x1 : Int32) (x2 : Int32) (x3 : Int32) (S : zSt) : Option (Int32 × zSt) :=
  if (zI S 25) ≤ x3 then
    fX10_back_62 x1 x2 x3 S
  else
    zld 600 x3 (zA S 32) (fun v3 =>
    if x2 < v3 then
      fX10_back_62 x1 x2 x3 S
    else
      k38 (x1, x2, (x3 + (nI 1)), S))
def fX10_back_38L (n : Nat) (a : Int32 × Int32 × Int32 × zSt) : Option (Int32 × zSt) := zfix (fun k38 a => fX10_back_38 k38 a.1 a.2.1 a.2.2.1 a.2.2.2) n a
def fX10_back (a1 : Int32) (S : zSt) : Option (Int32 × zSt) :=
  if (zI S 24) = 0 then
    some ((-3 : Int32), wI S 0 (nI 0))
  else
    zbd (fX10_in a1 (nI 0) (zI S 20) (wI S 0 (nI 0))) (fun r1 S2 =>
    if r1 = 0 then
      some ((-1 : Int32), S2)
    else
      fX10_back_38L zFU (a1, ((zI S2 20) - a1), (nI 0), S2))

def fX10_sweep_47 (x1 : Int32) (S : zSt) : Option (Int32 × zSt) :=
  some (x1, wI (wI S 21 (nI 0)) 22 (nI 0))
def fX10_sweep (S : zSt) : Option (Int32 × zSt) :=
  if (zI S 24) = 0 then
    some ((-3 : Int32), wI S 0 (nI 0))
  else
    zbd (fX10_sweepAll (wI S 0 (nI 0))) (fun r1 S2 =>
    if r1 ≤ 0 then
      fX10_sweep_47 r1 S2
    else
      zck 600 (zI S2 25) (
      fX10_sweep_47 r1 (wI (wA S2 32 ((zI S2 25).toNatClampNeg) (zI S2 20)) 25 ((zI S2 25) + (nI 1)))))

def fX10_count (a1 : Int32) (S : zSt) : Option (Int32 × zSt) :=
  if (zI S 24) = 0 then
    some ((-3 : Int32), wI S 0 (nI 0))
  else
    if a1 = (nI 0) then
      some ((zI S 15), wI S 0 (nI 0))
    else
    if a1 = (nI 1) then
      zbd (fX10_findKept (wI S 0 (nI 0))) (fun r1 S2 =>
      some (r1, S2))
    else
    if a1 = (nI 2) then
      zbd (fX10_size (wI S 0 (nI 0))) (fun r3 S4 =>
      some (r3, S4))
    else
    if a1 = (nI 3) then
      some (((zI S 19) - (nI 1)), wI S 0 (nI 0))
    else
    if a1 = (nI 4) then
      some ((zI S 20), wI S 0 (nI 0))
    else
    if a1 = (nI 5) then
      some ((zI S 17), wI S 0 (nI 0))
    else
    if a1 = (nI 6) then
      some ((zI S 16), wI S 0 (nI 0))
    else
    some ((-1 : Int32), wI S 0 (nI 0))

def fX10_isNode (a1 : Int32) (S : zSt) : Option (Int32 × zSt) :=
  zbd (fX10_in a1 (nI 0) (nI 399) S) (fun r1 S2 =>
  if r1 = 0 then
    some ((nI 0), S2)
  else
    zld 400 a1 (zA S2 24) (fun v3 =>
    if v3 = (nI 7) then
      some ((nI 0), S2)
    else
      some ((nI 1), S2)))

def fX10_holders_87 (k10 : Int32 × Int32 × Int32 × Int32 × zSt → Option (Int32 × zSt)) (x1 : Int32) (x2 : Int32) (x4 : Int32) (y0 : Int32) (S : zSt) : Option (Int32 × zSt) :=
  k10 (x1, x2, (y0 + (nI 0)), (x4 + (nI 1)), S)
def fX10_holders_55 (k10 : Int32 × Int32 × Int32 × Int32 × zSt → Option (Int32 × zSt)) (x1 : Int32) (x2 : Int32) (x4 : Int32) (x5 : Int32) (y0 : Int32) (y1 : Int32) (S : zSt) : Option (Int32 × zSt) :=
  zld 400 x5 (zA S 24) (fun v8 =>
  zbd (fX10_fields v8 S) (fun r9 S10 =>
  if r9 ≤ (nI 1) then
    fX10_holders_87 k10 x1 x2 x4 (y1 + y0) S10
  else
    zld 400 x5 (zA S10 26) (fun v11 =>
    if v11 = x1 then
      k10 (x1, x2, ((y1 + y0) + (nI 1)), (x4 + (nI 1)), S10)
    else
      fX10_holders_87 k10 x1 x2 x4 (y1 + y0) S10)))
def fX10_holders_54 (k10 : Int32 × Int32 × Int32 × Int32 × zSt → Option (Int32 × zSt)) (x1 : Int32) (x2 : Int32) (x4 : Int32) (x5 : Int32) (y0 : Int32) (S : zSt) : Option (Int32 × zSt) :=
  fX10_holders_55 k10 x1 x2 x4 x5 (nI 0) y0 S
def fX10_holders_99 (k99 : Int32 × Int32 × Int32 × zSt → Option (Int32 × zSt)) (x1 : Int32) (x3 : Int32) (x4 : Int32) (S : zSt) : Option (Int32 × zSt) :=
  if (zI S 18) ≤ x4 then
    some (x3, S)
  else
    zld 600 x4 (zA S 30) (fun v12 =>
    if v12 = x1 then
      k99 (x1, (x3 + (nI 1)), (x4 + (nI 1)), S)
    else
      k99 (x1, (x3 + (nI 0)), (x4 + (nI 1)), S))
def fX10_holders_99L (n : Nat) (a : Int32 × Int32 × Int32 × zSt) : Option (Int32 × zSt) := zfix (fun k99 a => fX10_holders_99 k99 a.1 a.2.1 a.2.2.1 a.2.2.2) n a
def fX10_holders_10 (k10 : Int32 × Int32 × Int32 × Int32 × zSt → Option (Int32 × zSt)) (x1 : Int32) (x2 : Int32) (x3 : Int32) (x4 : Int32) (S : zSt) : Option (Int32 × zSt) :=
  if x2 ≤ x4 then
    fX10_holders_99L zFU (x1, x3, (nI 0), S)
  else
    zld 400 x4 (zA S 36) (fun v3 =>
    zld 400 v3 (zA S 24) (fun v4 =>
    zbd (fX10_fields v4 S) (fun r5 S6 =>
    if r5 ≤ 0 then
      fX10_holders_54 k10 x1 x2 x4 v3 x3 S6
    else
      zld 400 v3 (zA S6 25) (fun v7 =>
      if v7 = x1 then
        fX10_holders_55 k10 x1 x2 x4 v3 (nI 1) x3 S6
      else
        fX10_holders_54 k10 x1 x2 x4 v3 x3 S6))))
def fX10_holders_10L (n : Nat) (a : Int32 × Int32 × Int32 × Int32 × zSt) : Option (Int32 × zSt) := zfix (fun k10 a => fX10_holders_10 k10 a.1 a.2.1 a.2.2.1 a.2.2.2.1 a.2.2.2.2) n a
def fX10_holders (a1 : Int32) (S : zSt) : Option (Int32 × zSt) :=
  zbd (fX10_findKept S) (fun r1 S2 =>
  fX10_holders_10L zFU (a1, r1, (nI 0), (nI 0), S2))

def fX10_node_ (a1 : Int32) (a2 : Int32) (S : zSt) : Option (Int32 × zSt) :=
  if (zI S 24) = 0 then
    some ((-3 : Int32), wI S 0 (nI 0))
  else
    zbd (fX10_isNode a1 (wI S 0 (nI 0))) (fun r1 S2 =>
    if r1 = 0 then
      some ((-1 : Int32), S2)
    else
      zbd (fX10_in a2 (nI 0) (nI 5) S2) (fun r3 S4 =>
      if r3 = 0 then
        some ((-1 : Int32), S4)
      else
        if a2 = (nI 0) then
          zld 400 a1 (zA S4 24) (fun v5 =>
          some (v5, S4))
        else
        if a2 = (nI 1) then
          zld 400 a1 (zA S4 25) (fun v6 =>
          some (v6, S4))
        else
        if a2 = (nI 2) then
          zld 400 a1 (zA S4 24) (fun v7 =>
          zbd (fX10_fields v7 S4) (fun r8 S9 =>
          if r8 = (nI 2) then
            zld 400 a1 (zA S9 26) (fun v10 =>
            some (v10, S9))
          else
            some ((-3 : Int32), S9)))
        else
        if a2 = (nI 3) then
          zld 400 a1 (zA S4 27) (fun v11 =>
          some (v11, S4))
        else
        if a2 = (nI 4) then
          zbd (fX10_holders a1 S4) (fun r12 S13 =>
          some (r12, S13))
        else
        zbd (fX10_findKept S4) (fun r14 S15 =>
        zld 400 a1 (zA S15 35) (fun v16 =>
        if v16 = 0 then
          some ((nI 0), S15)
        else
          some ((nI 1), S15)))))

def fX10_top (a1 : Int32) (S : zSt) : Option (Int32 × zSt) :=
  if (zI S 24) = 0 then
    some ((-3 : Int32), wI S 0 (nI 0))
  else
    zbd (fX10_size (wI S 0 (nI 0))) (fun r1 S2 =>
    zbd (fX10_in a1 (nI 0) (r1 - (nI 1)) S2) (fun r3 S4 =>
    if r3 = 0 then
      some ((-1 : Int32), S4)
    else
      zld 600 (((zI S4 18) - (nI 1)) - a1) (zA S4 30) (fun v5 =>
      some (v5, S4))))

def fX10_why (a1 : Int32) (S : zSt) : Option (Int32 × zSt) :=
  if (zI S 24) = 0 then
    some ((-3 : Int32), wI S 0 (nI 0))
  else
    zbd (fX10_in a1 (nI 0) ((zI S 19) - (nI 2)) (wI S 0 (nI 0))) (fun r1 S2 =>
    if r1 = 0 then
      some ((-1 : Int32), S2)
    else
      zld 601 (((zI S2 19) - (nI 1)) - a1) (zA S2 31) (fun v3 =>
      zld 600 (v3 - (nI 1)) (zA S2 30) (fun v4 =>
      some (v4, S2))))

def fX10_isRoot_12 (k12 : Int32 × Int32 × zSt → Option (Int32 × zSt)) (x1 : Int32) (x2 : Int32) (S : zSt) : Option (Int32 × zSt) :=
  if (zI S 18) ≤ x2 then
    some ((nI 0), S)
  else
    zld 600 x2 (zA S 30) (fun v1 =>
    if v1 = x1 then
      some ((nI 1), S)
    else
      k12 (x1, (x2 + (nI 1)), S))
def fX10_isRoot_12L (n : Nat) (a : Int32 × Int32 × zSt) : Option (Int32 × zSt) := zfix (fun k12 a => fX10_isRoot_12 k12 a.1 a.2.1 a.2.2) n a
def fX10_isRoot (a1 : Int32) (S : zSt) : Option (Int32 × zSt) :=
  if (zI S 8) ≤ a1 then
    fX10_isRoot_12L zFU (a1, (nI 0), S)
  else
    some ((nI 1), S)

def fX10_way_196 (k105 : Int32 × Int32 × Int32 × Int32 × zSt → Option (Int32 × zSt)) (x2 : Int32) (x5 : Int32) (x6 : Int32) (S : zSt) : Option (Int32 × zSt) :=
  zck 400 x6 (
  k105 (x2, (nI 1), x5, (x6 + (nI 1)), wA S 37 (x6.toNatClampNeg) (x5 + (nI 1))))
def fX10_way_165 (k105 : Int32 × Int32 × Int32 × Int32 × zSt → Option (Int32 × zSt)) (x2 : Int32) (x4 : Int32) (x5 : Int32) (x6 : Int32) (S : zSt) : Option (Int32 × zSt) :=
  zld 400 x6 (zA S 24) (fun v15 =>
  zbd (fX10_fields v15 S) (fun r16 S17 =>
  if r16 ≤ (nI 1) then
    k105 (x2, x4, x5, (x6 + (nI 1)), S17)
  else
    zld 400 x6 (zA S17 26) (fun v18 =>
    zld 400 v18 (zA S17 37) (fun v19 =>
    if v19 = x5 then
      fX10_way_196 k105 x2 x5 x6 S17
    else
      k105 (x2, x4, x5, (x6 + (nI 1)), S17)))))
def fX10_way_105 (k94 : Int32 × Int32 × Int32 × zSt → Option (Int32 × zSt)) (k105 : Int32 × Int32 × Int32 × Int32 × zSt → Option (Int32 × zSt)) (x2 : Int32) (x4 : Int32) (x5 : Int32) (x6 : Int32) (S : zSt) : Option (Int32 × zSt) :=
  if (nI 400) ≤ x6 then
    k94 (x2, x4, (x5 + (nI 1)), S)
  else
    zld 400 x6 (zA S 24) (fun v8 =>
    if v8 = (nI 7) then
      k105 (x2, x4, x5, (x6 + (nI 1)), S)
    else
      zld 400 x6 (zA S 37) (fun v9 =>
      if 0 ≤ v9 then
        k105 (x2, x4, x5, (x6 + (nI 1)), S)
      else
        zld 400 x6 (zA S 24) (fun v10 =>
        zbd (fX10_fields v10 S) (fun r11 S12 =>
        if r11 ≤ 0 then
          fX10_way_165 k105 x2 x4 x5 x6 S12
        else
          zld 400 x6 (zA S12 25) (fun v13 =>
          zld 400 v13 (zA S12 37) (fun v14 =>
          if v14 = x5 then
            fX10_way_196 k105 x2 x5 x6 S12
          else
            fX10_way_165 k105 x2 x4 x5 x6 S12))))))
def fX10_way_105L (k94 : Int32 × Int32 × Int32 × zSt → Option (Int32 × zSt)) (n : Nat) (a : Int32 × Int32 × Int32 × Int32 × zSt) : Option (Int32 × zSt) := zfix (fun k105 a => fX10_way_105 k94 k105 a.1 a.2.1 a.2.2.1 a.2.2.2.1 a.2.2.2.2) n a
def fX10_way_437 (k315 : Int32 × Int32 × Int32 × zSt → Option (Int32 × zSt)) (x2 : Int32) (x6 : Int32) (x7 : Int32) (x8 : Int32) (x9 : Int32) (S : zSt) : Option (Int32 × zSt) :=
  if x9 = 0 then
    k315 (x2, x8, (x6 + (nI 1)), S)
  else
    k315 (x2, x7, (x6 + (nI 1)), S)
def fX10_way_408 (k315 : Int32 × Int32 × Int32 × zSt → Option (Int32 × zSt)) (x2 : Int32) (x6 : Int32) (x7 : Int32) (x8 : Int32) (x9 : Int32) (y0 : Int32) (S : zSt) : Option (Int32 × zSt) :=
  if x9 = 0 then
    fX10_way_437 k315 x2 x6 x7 x8 x9 S
  else
    if y0 = 0 then
      fX10_way_437 k315 x2 x6 x7 x8 x9 S
    else
      if x8 ≤ x7 then
        k315 (x2, x8, (x6 + (nI 1)), S)
      else
        k315 (x2, x7, (x6 + (nI 1)), S)
def fX10_way_382 (k315 : Int32 × Int32 × Int32 × zSt → Option (Int32 × zSt)) (x2 : Int32) (x5 : Int32) (x6 : Int32) (x7 : Int32) (x8 : Int32) (y0 : Int32) (S : zSt) : Option (Int32 × zSt) :=
  zld 400 x8 (zA S 37) (fun v34 =>
  zld 400 x5 (zA S 37) (fun v35 =>
  if v34 = (v35 - (nI 1)) then
    fX10_way_408 k315 x2 x6 x7 x8 y0 (nI 1) S
  else
    fX10_way_408 k315 x2 x6 x7 x8 y0 (nI 0) S))
def fX10_way_356 (k315 : Int32 × Int32 × Int32 × zSt → Option (Int32 × zSt)) (x2 : Int32) (x5 : Int32) (x6 : Int32) (x7 : Int32) (y0 : Int32) (S : zSt) : Option (Int32 × zSt) :=
  zld 400 x7 (zA S 37) (fun v32 =>
  zld 400 x5 (zA S 37) (fun v33 =>
  if v32 = (v33 - (nI 1)) then
    fX10_way_382 k315 x2 x5 x6 x7 y0 (nI 1) S
  else
    fX10_way_382 k315 x2 x5 x6 x7 y0 (nI 0) S))
def fX10_way_315 (k315 : Int32 × Int32 × Int32 × zSt → Option (Int32 × zSt)) (x2 : Int32) (x5 : Int32) (x6 : Int32) (S : zSt) : Option (Int32 × zSt) :=
  if x2 ≤ x6 then
    some (x5, S)
  else
    zld 400 x5 (zA S 25) (fun v27 =>
    zld 400 x5 (zA S 24) (fun v28 =>
    zbd (fX10_fields v28 S) (fun r29 S30 =>
    if r29 ≤ (nI 1) then
      fX10_way_356 k315 x2 x5 x6 v27 v27 S30
    else
      zld 400 x5 (zA S30 26) (fun v31 =>
      fX10_way_356 k315 x2 x5 x6 v27 v31 S30))))
def fX10_way_315L (n : Nat) (a : Int32 × Int32 × Int32 × zSt) : Option (Int32 × zSt) := zfix (fun k315 a => fX10_way_315 k315 a.1 a.2.1 a.2.2.1 a.2.2.2) n a
def fX10_way_228 (k228 : Int32 × Int32 × Int32 × zSt → Option (Int32 × zSt)) (x2 : Int32) (x5 : Int32) (x6 : Int32) (S : zSt) : Option (Int32 × zSt) :=
  if (nI 400) ≤ x6 then
    zld 400 x5 (zA S 37) (fun v20 =>
    if x2 < v20 then
      if 0 ≤ x2 then
        fX10_way_315L zFU (x2, x5, (nI 0), S)
      else
        zld 400 x5 (zA S 37) (fun v21 =>
        some (v21, S))
    else
      some ((-1 : Int32), S))
  else
    zbd (fX10_isRoot x6 S) (fun r22 S23 =>
    if r22 = 0 then
      k228 (x2, x5, (x6 + (nI 1)), S23)
    else
      zld 400 x6 (zA S23 37) (fun v24 =>
      if v24 ≤ 0 then
        k228 (x2, x5, (x6 + (nI 1)), S23)
      else
        if x5 < 0 then
          k228 (x2, x6, (x6 + (nI 1)), S23)
        else
          zld 400 x6 (zA S23 37) (fun v25 =>
          zld 400 x5 (zA S23 37) (fun v26 =>
          if v26 ≤ v25 then
            k228 (x2, x5, (x6 + (nI 1)), S23)
          else
            k228 (x2, x6, (x6 + (nI 1)), S23)))))
def fX10_way_228L (n : Nat) (a : Int32 × Int32 × Int32 × zSt) : Option (Int32 × zSt) := zfix (fun k228 a => fX10_way_228 k228 a.1 a.2.1 a.2.2.1 a.2.2.2) n a
def fX10_way_94 (k94 : Int32 × Int32 × Int32 × zSt → Option (Int32 × zSt)) (x2 : Int32) (x4 : Int32) (x5 : Int32) (S : zSt) : Option (Int32 × zSt) :=
  if x4 = 0 then
    fX10_way_228L zFU (x2, (-1 : Int32), (nI 0), S)
  else
    fX10_way_105L k94 zFU (x2, (nI 0), x5, (nI 0), S)
def fX10_way_94L (n : Nat) (a : Int32 × Int32 × Int32 × zSt) : Option (Int32 × zSt) := zfix (fun k94 a => fX10_way_94 k94 a.1 a.2.1 a.2.2.1 a.2.2.2) n a
def fX10_way_59 (k59 : Int32 × Int32 × Int32 × zSt → Option (Int32 × zSt)) (x1 : Int32) (x2 : Int32) (x4 : Int32) (S : zSt) : Option (Int32 × zSt) :=
  if (nI 400) ≤ x4 then
    zck 400 x1 (
    fX10_way_94L zFU (x2, (nI 1), (nI 1), wA S 37 (x1.toNatClampNeg) (nI 1)))
  else
    zck 400 x4 (
    k59 (x1, x2, (x4 + (nI 1)), wA S 37 (x4.toNatClampNeg) (-1 : Int32)))
def fX10_way_59L (n : Nat) (a : Int32 × Int32 × Int32 × zSt) : Option (Int32 × zSt) := zfix (fun k59 a => fX10_way_59 k59 a.1 a.2.1 a.2.2.1 a.2.2.2) n a
def fX10_way_31 (x1 : Int32) (x2 : Int32) (y0 : Int32) (S : zSt) : Option (Int32 × zSt) :=
  zbd (fX10_isNode x1 S) (fun r5 S6 =>
  if r5 = 0 then
    some ((-1 : Int32), S6)
  else
    zld 400 x1 (zA S6 35) (fun v7 =>
    if v7 = 0 then
      some ((-1 : Int32), S6)
    else
      if (-1 : Int32) ≤ x2 then
        fX10_way_59L zFU (x1, x2, (nI 0), S6)
      else
        some ((-1 : Int32), S6)))
def fX10_way (a1 : Int32) (a2 : Int32) (S : zSt) : Option (Int32 × zSt) :=
  if (zI S 24) = 0 then
    some ((-3 : Int32), wI S 0 (nI 0))
  else
    zbd (fX10_isNode a1 (wI S 0 (nI 0))) (fun r1 S2 =>
    if r1 = 0 then
      fX10_way_31 a1 a2 (nI 0) S2
    else
      zbd (fX10_findKept S2) (fun r3 S4 =>
      fX10_way_31 a1 a2 r3 S4))

def fX10_profile (a1 : Int32) (a2 : Int32) (S : zSt) : Option (Int32 × zSt) :=
  if (zI S 24) = 0 then
    some ((-3 : Int32), wI S 0 (nI 0))
  else
    zbd (fX10_in a1 (nI 0) ((zI S 8) - (nI 1)) (wI S 0 (nI 0))) (fun r1 S2 =>
    if r1 = 0 then
      some ((-1 : Int32), S2)
    else
      zbd (fX10_in a2 (nI 0) (nI 1) S2) (fun r3 S4 =>
      if r3 = 0 then
        some ((-1 : Int32), S4)
      else
        if a2 = 0 then
          zld 20 a1 (zA S4 28) (fun v6 =>
          some (v6, S4))
        else
          zld 20 a1 (zA S4 29) (fun v5 =>
          some (v5, S4))))

def fX10_rest (S : zSt) : Option (Int32 × zSt) :=
  if (zI S 24) = 0 then
    some ((-3 : Int32), wI S 0 (nI 0))
  else
    if (zI S 21) = (nI 1) then
      zbd (fX10_topNode (wI S 0 (nI 0))) (fun r1 S2 =>
      zld 400 r1 (zA S2 24) (fun v3 =>
      if v3 = 0 then
        some ((nI 0), S2)
      else
        if v3 = (nI 4) then
          some ((nI 1), S2)
        else
          if v3 = (nI 5) then
            some ((nI 2), S2)
          else
            some ((nI 3), S2)))
    else
      some ((-3 : Int32), wI S 0 (nI 0))

def fX10_share (S : zSt) : Option (Int32 × zSt) :=
  if (zI S 24) = 0 then
    some ((nI 0), wI (wI S 0 (nI 0)) 0 (nI 1))
  else
    zbd (fX10_findKept (wI S 0 (nI 0))) (fun r1 S2 =>
    zdv (zI S2 15) (
    some ((((nI 1000) * r1) / (zI S2 15)), S2)))
