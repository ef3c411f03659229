def FU_ : Nat := 1000000
def k_Acts_init (a0 : Nat) (M : mm_T) : Option (Unit × mm_T) :=
  ob_ M a0 0 <|
  nm_ M 4 0 10 64 fun r9 M =>
  pR_ M a0 0 0 r9 fun M =>
  na_ M 0 10 fun r19 M =>
  pR_ M a0 0 1 r19 fun M =>
  pI_ M a0 0 2 0 fun M =>
  pI_ M a0 0 3 0 fun M =>
  some ((), M)
def k_Sizes_init (a0 : Nat) (M : mm_T) : Option (Unit × mm_T) :=
  ob_ M a0 7 <|
  na_ M 0 3 fun r6 M =>
  pR_ M a0 7 0 r6 fun M =>
  na_ M 0 3 fun r13 M =>
  pR_ M a0 7 1 r13 fun M =>
  some ((), M)
def k_Line_init (a0 : Nat) (M : mm_T) : Option (Unit × mm_T) :=
  ob_ M a0 1 <|
  na_ M 0 64 fun r7 M =>
  pR_ M a0 1 0 r7 fun M =>
  nm_ M 4 0 64 64 fun r17 M =>
  pR_ M a0 1 1 r17 fun M =>
  na_ M 0 64 fun r27 M =>
  pR_ M a0 1 2 r27 fun M =>
  nw_ M 7 2 fun r33 M =>
  ob_ M r33 7 <| cl_ (k_Sizes_init r33 M) fun _ M =>
  pR_ M a0 1 3 r33 fun M =>
  pI_ M a0 1 4 0 fun M =>
  some ((), M)
def k_Tape_init (a0 : Nat) (M : mm_T) : Option (Unit × mm_T) :=
  ob_ M a0 8 <|
  na_ M 0 400 fun r8 M =>
  pR_ M a0 8 0 r8 fun M =>
  pI_ M a0 8 1 0 fun M =>
  some ((), M)
def k_Reader_init (a0 : Nat) (M : mm_T) : Option (Unit × mm_T) :=
  ob_ M a0 4 <|
  nw_ M 8 2 fun r5 M =>
  ob_ M r5 8 <| cl_ (k_Tape_init r5 M) fun _ M =>
  pR_ M a0 4 0 r5 fun M =>
  pI_ M a0 4 1 0 fun M =>
  pI_ M a0 4 2 (-1) fun M =>
  pI_ M a0 4 3 0 fun M =>
  pI_ M a0 4 4 0 fun M =>
  some ((), M)
def k_Search_init (a0 : Nat) (M : mm_T) : Option (Unit × mm_T) :=
  ob_ M a0 5 <|
  nw_ M 1 5 fun r5 M =>
  ob_ M r5 1 <| cl_ (k_Line_init r5 M) fun _ M =>
  pR_ M a0 5 0 r5 fun M =>
  pR_ M a0 5 1 0 fun M =>
  pI_ M a0 5 2 0 fun M =>
  pI_ M a0 5 3 0 fun M =>
  pI_ M a0 5 4 0 fun M =>
  pI_ M a0 5 5 0 fun M =>
  pI_ M a0 5 6 0 fun M =>
  some ((), M)
def k_Name_init (a0 : Nat) (M : mm_T) : Option (Unit × mm_T) :=
  ob_ M a0 3 <|
  na_ M 0 6 fun r7 M =>
  pR_ M a0 3 0 r7 fun M =>
  pI_ M a0 3 1 0 fun M =>
  some ((), M)
def k_Morph_init (a0 : Nat) (M : mm_T) : Option (Unit × mm_T) :=
  ob_ M a0 2 <|
  nw_ M 3 2 fun r5 M =>
  ob_ M r5 3 <| cl_ (k_Name_init r5 M) fun _ M =>
  pR_ M a0 2 0 r5 fun M =>
  nm_ M 4 0 4 6 fun r19 M =>
  pR_ M a0 2 1 r19 fun M =>
  na_ M 0 4 fun r28 M =>
  pR_ M a0 2 2 r28 fun M =>
  some ((), M)
def k_Shape_init (a0 : Nat) (M : mm_T) : Option (Unit × mm_T) :=
  ob_ M a0 6 <|
  nw_ M 3 2 fun r5 M =>
  ob_ M r5 3 <| cl_ (k_Name_init r5 M) fun _ M =>
  pR_ M a0 6 0 r5 fun M =>
  na_ M 0 6 fun r18 M =>
  pR_ M a0 6 1 r18 fun M =>
  pI_ M a0 6 2 0 fun M =>
  pI_ M a0 6 3 0 fun M =>
  pZ_ M a0 6 4 0 fun M =>
  some ((), M)
def lp_Told_init_52 (kx89 : mm_T → Option (Unit × mm_T)) (a0 : Nat) : Nat → Int → mm_T → Option (Unit × mm_T)
  | 0, _, _ => none
  | f + 1, v1, M =>
    if 4 ≤ v1 then (
      kx89 M
    ) else (
      gR_ M a0 9 0 fun r58 =>
      nw_ M 2 3 fun r62 M =>
      ob_ M r62 2 <| cl_ (k_Morph_init r62 M) fun _ M =>
      sR_ M r58 6 v1 r62 2 fun M =>
      gR_ M a0 9 1 fun r71 =>
      nw_ M 6 5 fun r75 M =>
      ob_ M r75 6 <| cl_ (k_Shape_init r75 M) fun _ M =>
      sR_ M r71 7 v1 r75 6 fun M =>
      ck_ (v1 + 1) fun v1_83 =>
      lp_Told_init_52 kx89 a0 f v1_83 M
    )

def k_Told_init (a0 : Nat) (M : mm_T) : Option (Unit × mm_T) :=
  ob_ M a0 9 <|
  na_ M 6 4 fun r6 M =>
  pR_ M a0 9 0 r6 fun M =>
  na_ M 7 4 fun r14 M =>
  pR_ M a0 9 1 r14 fun M =>
  pI_ M a0 9 2 2 fun M =>
  pI_ M a0 9 3 0 fun M =>
  pI_ M a0 9 4 0 fun M =>
  pI_ M a0 9 5 0 fun M =>
  pI_ M a0 9 6 0 fun M =>
  pI_ M a0 9 7 0 fun M =>
  lt_ (0 : Int) fun v1_51 =>
  lp_Told_init_52
    (fun (M : mm_T) =>
      some ((), M)
    )
    a0 FU_ v1_51 M
def k_X_init (a0 : Nat) (M : mm_T) : Option (Unit × mm_T) :=
  ob_ M a0 10 <|
  nw_ M 4 5 fun r5 M =>
  ob_ M r5 4 <| cl_ (k_Reader_init r5 M) fun _ M =>
  pR_ M a0 10 0 r5 fun M =>
  nw_ M 9 8 fun r16 M =>
  ob_ M r16 9 <| cl_ (k_Told_init r16 M) fun _ M =>
  pR_ M a0 10 1 r16 fun M =>
  nw_ M 9 8 fun r27 M =>
  ob_ M r27 9 <| cl_ (k_Told_init r27 M) fun _ M =>
  pR_ M a0 10 2 r27 fun M =>
  nw_ M 7 2 fun r38 M =>
  ob_ M r38 7 <| cl_ (k_Sizes_init r38 M) fun _ M =>
  pR_ M a0 10 6 r38 fun M =>
  nw_ M 1 5 fun r49 M =>
  ob_ M r49 1 <| cl_ (k_Line_init r49 M) fun _ M =>
  pR_ M a0 10 3 r49 fun M =>
  nw_ M 1 5 fun r60 M =>
  ob_ M r60 1 <| cl_ (k_Line_init r60 M) fun _ M =>
  pR_ M a0 10 4 r60 fun M =>
  nw_ M 5 7 fun r71 M =>
  ob_ M r71 5 <| cl_ (k_Search_init r71 M) fun _ M =>
  pR_ M a0 10 5 r71 fun M =>
  nw_ M 0 4 fun r82 M =>
  ob_ M r82 0 <| cl_ (k_Acts_init r82 M) fun _ M =>
  pR_ M a0 10 7 r82 fun M =>
  nm_ M 5 3 13 4 fun r96 M =>
  pR_ M a0 10 8 r96 fun M =>
  na_ M 3 65 fun r106 M =>
  pR_ M a0 10 9 r106 fun M =>
  some ((), M)
def lp_Tape_add_3 (kx51 : mm_T → Option (Unit × mm_T)) (a0 : Nat) (v1 : Int) : Nat → Int → mm_T → Option (Unit × mm_T)
  | 0, _, _ => none
  | f + 1, v2, M =>
    if v2 < 0 then (
      kx51 M
    ) else (
      gI_ M a0 8 1 fun x8 =>
      gR_ M a0 8 0 fun r12 =>
      al_ M r12 0 fun x15 =>
      if x15 ≤ x8 then (
        kx51 M
      ) else (
        gR_ M a0 8 0 fun r20 =>
        gI_ M a0 8 1 fun x24 =>
        sI_ M r20 x24 (and_ (ushr_ v1 v2) 255) fun M =>
        gI_ M a0 8 1 fun x37 =>
        ck_ (x37 + 1) fun x41 =>
        pI_ M a0 8 1 x41 fun M =>
        ck_ (v2 + (-8)) fun v2_45 =>
        lp_Tape_add_3 kx51 a0 v1 f v2_45 M
      )
    )

def k_Tape_add (a0 : Nat) (v1 : Int) (M : mm_T) : Option (Unit × mm_T) :=
  lt_ (24 : Int) fun v2_2 =>
  lp_Tape_add_3
    (fun (M : mm_T) =>
      some ((), M)
    )
    a0 v1 FU_ v2_2 M
def k_X_feed (a0 : Nat) (v1 : Int) (v2 : Int) (v3 : Int) (v4 : Int) (v5 : Int) (M : mm_T) : Option (Int × mm_T) :=
  gR_ M a0 10 0 fun r1 =>
  gR_ M r1 4 0 fun r4 =>
  lt_ r4 fun a6_7 =>
  gI_ M a6_7 8 1 fun x11 =>
  ck_ (x11 + 20) fun x16 =>
  if x16 ≤ 400 then (
    ob_ M a6_7 8 <| cl_ (k_Tape_add a6_7 v1 M) fun _ M =>
    ob_ M a6_7 8 <| cl_ (k_Tape_add a6_7 v2 M) fun _ M =>
    ob_ M a6_7 8 <| cl_ (k_Tape_add a6_7 v3 M) fun _ M =>
    ob_ M a6_7 8 <| cl_ (k_Tape_add a6_7 v4 M) fun _ M =>
    ob_ M a6_7 8 <| cl_ (k_Tape_add a6_7 v5 M) fun _ M =>
    gI_ M a6_7 8 1 fun x59 =>
    some (x59, M)
  ) else (
    some ((-1), M)
  )
def k_X_end (a0 : Nat) (v1 : Int) (M : mm_T) : Option (Int × mm_T) :=
  if v1 < 0 then (
    zz_ 0 (some (0, M))
  ) else (
    gR_ M a0 10 0 fun r6 =>
    gR_ M r6 4 0 fun r9 =>
    gI_ M r9 8 1 fun x12 =>
    if v1 ≤ x12 then (
      gR_ M a0 10 0 fun r21 =>
      gR_ M r21 4 0 fun r24 =>
      pI_ M r24 8 1 v1 fun M =>
      zz_ 1 (some (1, M))
    ) else (
      zz_ 0 (some (0, M))
    )
  )
def k_Acts_clear (a0 : Nat) (M : mm_T) : Option (Unit × mm_T) :=
  pI_ M a0 0 3 0 fun M =>
  some ((), M)
def k_Line_clear (a0 : Nat) (M : mm_T) : Option (Unit × mm_T) :=
  pI_ M a0 1 4 0 fun M =>
  some ((), M)
def k_Reader_begin (a0 : Nat) (M : mm_T) : Option (Unit × mm_T) :=
  pI_ M a0 4 1 0 fun M =>
  pI_ M a0 4 2 (-1) fun M =>
  some ((), M)
def k_Tape_at (a0 : Nat) (v1 : Int) (M : mm_T) : Option (Int × mm_T) :=
  jn_ (fun (M : mm_T) =>
    some ((-1), M)
  ) fun j30 =>
  if v1 < 0 then (
    j30 M
  ) else (
    gI_ M a0 8 1 fun x6 =>
    if x6 ≤ v1 then (
      j30 M
    ) else (
      gR_ M a0 8 0 fun r14 =>
      al_ M r14 0 fun x17 =>
      if x17 ≤ v1 then (
        j30 M
      ) else (
        gR_ M a0 8 0 fun r22 =>
        aI_ M r22 0 v1 fun x26 =>
        some (x26, M)
      )
    )
  )
def k_Tape_isBlank (v0 : Int) (M : mm_T) : Option (Int × mm_T) :=
  jn_ (fun (M : mm_T) =>
    zz_ 1 (some (1, M))
  ) fun j18 =>
  if v0 = 9 then (
    j18 M
  ) else (
    if v0 = 10 then (
      j18 M
    ) else (
      if ¬ v0 = 32 then (
        zz_ 0 (some (0, M))
      ) else (
        j18 M
      )
    )
  )
def lp_Reader_skipBlanks_0 (kx44 : mm_T → Option (Unit × mm_T)) (a0 : Nat) : Nat → mm_T → Option (Unit × mm_T)
  | 0, _ => none
  | f + 1, M =>
    gI_ M a0 4 1 fun x1 =>
    gR_ M a0 4 0 fun r5 =>
    gI_ M r5 8 1 fun x8 =>
    if x8 ≤ x1 then (
      kx44 M
    ) else (
      gR_ M a0 4 0 fun r15 =>
      gI_ M a0 4 1 fun x19 =>
      ob_ M r15 8 <| cl_ (k_Tape_at r15 x19 M) fun c22 M =>
      cl_ (k_Tape_isBlank c22 M) fun c25 M =>
      if c25 = 0 then (
        kx44 M
      ) else (
        gI_ M a0 4 1 fun x33 =>
        ck_ (x33 + 1) fun x37 =>
        pI_ M a0 4 1 x37 fun M =>
        lp_Reader_skipBlanks_0 kx44 a0 f M
      )
    )

def k_Reader_skipBlanks (a0 : Nat) (M : mm_T) : Option (Unit × mm_T) :=
  lp_Reader_skipBlanks_0
    (fun (M : mm_T) =>
      some ((), M)
    )
    a0 FU_ M
def lp_Reader_isWord_20 (kx57 : mm_T → Option (Int × mm_T)) (a0 : Nat) (a1 : Nat) : Nat → Int → mm_T → Option (Int × mm_T)
  | 0, _, _ => none
  | f + 1, v2, M =>
    tl_ a1 fun x22 =>
    if x22 ≤ v2 then (
      kx57 M
    ) else (
      tc_ a1 v2 fun x30 =>
      gR_ M a0 4 0 fun r34 =>
      gI_ M a0 4 3 fun x38 =>
      ck_ (x38 + v2) fun x42 =>
      ob_ M r34 8 <| cl_ (k_Tape_at r34 x42 M) fun c43 M =>
      if x30 = c43 then (
        ck_ (v2 + 1) fun v2_51 =>
        lp_Reader_isWord_20 kx57 a0 a1 f v2_51 M
      ) else (
        zz_ 0 (some (0, M))
      )
    )

def k_Reader_isWord (a0 : Nat) (a1 : Nat) (M : mm_T) : Option (Int × mm_T) :=
  tl_ a1 fun x1 =>
  gI_ M a0 4 1 fun x5 =>
  gI_ M a0 4 3 fun x9 =>
  ck_ (x5 - x9) fun x12 =>
  if x1 = x12 then (
    lt_ (0 : Int) fun v2_19 =>
    lp_Reader_isWord_20
      (fun (M : mm_T) =>
        zz_ 1 (some (1, M))
      )
      a0 a1 FU_ v2_19 M
  ) else (
    zz_ 0 (some (0, M))
  )
def k_Reader_miss (a0 : Nat) (v1 : Int) (M : mm_T) : Option (Int × mm_T) :=
  pI_ M a0 4 2 v1 fun M =>
  zz_ 0 (some (0, M))
def k_Tape_isSmall (v0 : Int) (M : mm_T) : Option (Int × mm_T) :=
  jn_ (fun (M : mm_T) =>
    zz_ 0 (some (0, M))
  ) fun j16 =>
  if v0 < 97 then (
    j16 M
  ) else (
    if 122 < v0 then (
      j16 M
    ) else (
      zz_ 1 (some (1, M))
    )
  )
def lp_Reader_takesWord_12 (kx56 : mm_T → Option (Int × mm_T)) (a0 : Nat) : Nat → mm_T → Option (Int × mm_T)
  | 0, _ => none
  | f + 1, M =>
    gI_ M a0 4 1 fun x13 =>
    gR_ M a0 4 0 fun r17 =>
    gI_ M r17 8 1 fun x20 =>
    if x20 ≤ x13 then (
      kx56 M
    ) else (
      gR_ M a0 4 0 fun r27 =>
      gI_ M a0 4 1 fun x31 =>
      ob_ M r27 8 <| cl_ (k_Tape_at r27 x31 M) fun c34 M =>
      cl_ (k_Tape_isSmall c34 M) fun c37 M =>
      if c37 = 0 then (
        kx56 M
      ) else (
        gI_ M a0 4 1 fun x45 =>
        ck_ (x45 + 1) fun x49 =>
        pI_ M a0 4 1 x49 fun M =>
        lp_Reader_takesWord_12 kx56 a0 f M
      )
    )

def k_Reader_takesWord (a0 : Nat) (M : mm_T) : Option (Int × mm_T) :=
  ob_ M a0 4 <| cl_ (k_Reader_skipBlanks a0 M) fun _ M =>
  gI_ M a0 4 1 fun x6 =>
  pI_ M a0 4 3 x6 fun M =>
  lp_Reader_takesWord_12
    (fun (M : mm_T) =>
      gI_ M a0 4 1 fun x57 =>
      gI_ M a0 4 3 fun x61 =>
      jn_ (fun (M : mm_T) =>
        zz_ 1 (some (1, M))
      ) fun j78 =>
      if x61 < x57 then (
        j78 M
      ) else (
        gI_ M a0 4 3 fun x69 =>
        ob_ M a0 4 <| cl_ (k_Reader_miss a0 x69 M) fun c72 M =>
        if c72 = 0 then (
          zz_ 0 (some (0, M))
        ) else (
          j78 M
        )
      )
    )
    a0 FU_ M
def k_Reader_takesKeyword (a0 : Nat) (a1 : Nat) (M : mm_T) : Option (Int × mm_T) :=
  ob_ M a0 4 <| cl_ (k_Reader_takesWord a0 M) fun c1 M =>
  jn_ (fun (M : mm_T) =>
    zz_ 0 (some (0, M))
  ) fun j30 =>
  if c1 = 0 then (
    j30 M
  ) else (
    ob_ M a0 4 <| cl_ (k_Reader_isWord a0 a1 M) fun c9 M =>
    jn_ (fun (M : mm_T) =>
      zz_ 1 (some (1, M))
    ) fun j26 =>
    if ¬ c9 = 0 then (
      j26 M
    ) else (
      gI_ M a0 4 3 fun x17 =>
      ob_ M a0 4 <| cl_ (k_Reader_miss a0 x17 M) fun c20 M =>
      if c20 = 0 then (
        j30 M
      ) else (
        j26 M
      )
    )
  )
def lp_Name_isAt_15 (kx60 : mm_T → Option (Int × mm_T)) (a0 : Nat) (a1 : Nat) (v2 : Int) : Nat → Int → mm_T → Option (Int × mm_T)
  | 0, _, _ => none
  | f + 1, v4, M =>
    gI_ M a0 3 1 fun x18 =>
    if x18 ≤ v4 then (
      kx60 M
    ) else (
      gR_ M a0 3 0 fun r27 =>
      al_ M r27 0 fun x30 =>
      if x30 ≤ v4 then (
        kx60 M
      ) else (
        gR_ M a0 3 0 fun r35 =>
        aI_ M r35 0 v4 fun x40 =>
        ck_ (v2 + v4) fun x45 =>
        ob_ M a1 8 <| cl_ (k_Tape_at a1 x45 M) fun c46 M =>
        if x40 = c46 then (
          ck_ (v4 + 1) fun v4_54 =>
          lp_Name_isAt_15 kx60 a0 a1 v2 f v4_54 M
        ) else (
          zz_ 0 (some (0, M))
        )
      )
    )

def k_Name_isAt (a0 : Nat) (a1 : Nat) (v2 : Int) (v3 : Int) (M : mm_T) : Option (Int × mm_T) :=
  ck_ (v3 - v2) fun x2 =>
  gI_ M a0 3 1 fun x4 =>
  if x2 = x4 then (
    lt_ (0 : Int) fun v4_13 =>
    lp_Name_isAt_15
      (fun (M : mm_T) =>
        zz_ 1 (some (1, M))
      )
      a0 a1 v2 FU_ v4_13 M
  ) else (
    zz_ 0 (some (0, M))
  )
def k_Told_shapeAt (a0 : Nat) (v1 : Int) (M : mm_T) : Option (Nat × mm_T) :=
  jn_ (fun (M : mm_T) =>
    some (0, M)
  ) fun j22 =>
  if v1 < 0 then (
    j22 M
  ) else (
    gR_ M a0 9 1 fun r6 =>
    al_ M r6 7 fun x9 =>
    if x9 ≤ v1 then (
      j22 M
    ) else (
      gR_ M a0 9 1 fun r14 =>
      aR_ M r14 7 v1 fun r18 =>
      some (r18, M)
    )
  )
def lp_Reader_takesAvoid_11 (kx71 : mm_T → Option (Int × mm_T)) (a0 : Nat) (a1 : Nat) : Nat → Int → mm_T → Option (Int × mm_T)
  | 0, _, _ => none
  | f + 1, v2, M =>
    gI_ M a1 9 7 fun x13 =>
    if x13 ≤ v2 then (
      kx71 M
    ) else (
      ob_ M a1 9 <| cl_ (k_Told_shapeAt a1 v2 M) fun c21 M =>
      lt_ c21 fun a3_24 =>
      jn_ (fun (M : mm_T) =>
        ck_ (v2 + 1) fun v2_65 =>
        lp_Reader_takesAvoid_11 kx71 a0 a1 f v2_65 M
      ) fun j65 =>
      nn_ a3_24 (
        j65 M
      ) (
        gI_ M a3_24 6 4 fun x30 =>
        if ¬ x30 = 0 then (
          j65 M
        ) else (
          gR_ M a3_24 6 0 fun r37 =>
          gR_ M a0 4 0 fun r41 =>
          gI_ M a0 4 3 fun x45 =>
          gI_ M a0 4 1 fun x49 =>
          ob_ M r37 3 <| cl_ (k_Name_isAt r37 r41 x45 x49 M) fun c52 M =>
          if c52 = 0 then (
            j65 M
          ) else (
            pZ_ M a3_24 6 4 1 fun M =>
            zz_ 1 (some (1, M))
          )
        )
      )
    )

def k_Reader_takesAvoid (a0 : Nat) (a1 : Nat) (M : mm_T) : Option (Int × mm_T) :=
  ob_ M a0 4 <| cl_ (k_Reader_takesWord a0 M) fun c1 M =>
  if ¬ c1 = 0 then (
    lt_ (0 : Int) fun v2_10 =>
    lp_Reader_takesAvoid_11
      (fun (M : mm_T) =>
        gI_ M a0 4 3 fun x73 =>
        ob_ M a0 4 <| cl_ (k_Reader_miss a0 x73 M) fun c76 M =>
        zz_ c76 (some (c76, M))
      )
      a0 a1 FU_ v2_10 M
  ) else (
    zz_ 0 (some (0, M))
  )
def k_Tape_isDigit (v0 : Int) (M : mm_T) : Option (Int × mm_T) :=
  jn_ (fun (M : mm_T) =>
    zz_ 0 (some (0, M))
  ) fun j16 =>
  if v0 < 48 then (
    j16 M
  ) else (
    if 57 < v0 then (
      j16 M
    ) else (
      zz_ 1 (some (1, M))
    )
  )
def lp_Reader_takesNumber_17 (kx100 : mm_T → Option (Int × mm_T)) (a0 : Nat) : Nat → mm_T → Option (Int × mm_T)
  | 0, _ => none
  | f + 1, M =>
    gI_ M a0 4 1 fun x18 =>
    gR_ M a0 4 0 fun r22 =>
    gI_ M r22 8 1 fun x25 =>
    if x25 ≤ x18 then (
      kx100 M
    ) else (
      gR_ M a0 4 0 fun r32 =>
      gI_ M a0 4 1 fun x36 =>
      ob_ M r32 8 <| cl_ (k_Tape_at r32 x36 M) fun c39 M =>
      cl_ (k_Tape_isDigit c39 M) fun c42 M =>
      if c42 = 0 then (
        kx100 M
      ) else (
        gI_ M a0 4 1 fun x49 =>
        gI_ M a0 4 3 fun x53 =>
        ck_ (x49 - x53) fun x56 =>
        jn_ (fun (M : mm_T) =>
          gI_ M a0 4 1 fun x89 =>
          ck_ (x89 + 1) fun x93 =>
          pI_ M a0 4 1 x93 fun M =>
          lp_Reader_takesNumber_17 kx100 a0 f M
        ) fun j87 =>
        if 2 ≤ x56 then (
          j87 M
        ) else (
          gI_ M a0 4 4 fun x65 =>
          ck_ (10 * x65) fun x68 =>
          gR_ M a0 4 0 fun r70 =>
          gI_ M a0 4 1 fun x74 =>
          ob_ M r70 8 <| cl_ (k_Tape_at r70 x74 M) fun c77 M =>
          ck_ (x68 + c77) fun x80 =>
          ck_ (x80 - 48) fun x83 =>
          pI_ M a0 4 4 x83 fun M =>
          j87 M
        )
      )
    )

def k_Reader_takesNumber (a0 : Nat) (v1 : Int) (v2 : Int) (M : mm_T) : Option (Int × mm_T) :=
  ob_ M a0 4 <| cl_ (k_Reader_skipBlanks a0 M) fun _ M =>
  gI_ M a0 4 1 fun x6 =>
  pI_ M a0 4 3 x6 fun M =>
  pI_ M a0 4 4 0 fun M =>
  lp_Reader_takesNumber_17
    (fun (M : mm_T) =>
      gI_ M a0 4 1 fun x101 =>
      gI_ M a0 4 3 fun x105 =>
      jn_ (fun (s0_145 : Int) (M : mm_T) =>
        lt_ s0_145 fun v3_145 =>
        jn_ (fun (M : mm_T) =>
          zz_ 1 (some (1, M))
        ) fun j161 =>
        if ¬ v3_145 = 0 then (
          j161 M
        ) else (
          gI_ M a0 4 3 fun x152 =>
          ob_ M a0 4 <| cl_ (k_Reader_miss a0 x152 M) fun c155 M =>
          if c155 = 0 then (
            zz_ 0 (some (0, M))
          ) else (
            j161 M
          )
        )
      ) fun j145 =>
      jn_ (fun (M : mm_T) =>
        j145 0 M
      ) fun j144 =>
      if x101 ≤ x105 then (
        j144 M
      ) else (
        gI_ M a0 4 1 fun x112 =>
        gI_ M a0 4 3 fun x116 =>
        ck_ (x112 - x116) fun x119 =>
        if 2 < x119 then (
          j144 M
        ) else (
          gI_ M a0 4 4 fun x125 =>
          if x125 < v1 then (
            j144 M
          ) else (
            gI_ M a0 4 4 fun x133 =>
            if v2 < x133 then (
              j144 M
            ) else (
              j145 1 M
            )
          )
        )
      )
    )
    a0 FU_ M
def k_Told_setLimit (a0 : Nat) (v1 : Int) (v2 : Int) (v3 : Int) (M : mm_T) : Option (Unit × mm_T) :=
  pI_ M a0 9 3 v1 fun M =>
  jn_ (fun (sa0_15 : Nat) (s1_15 : Int) (M : mm_T) =>
    pI_ M sa0_15 9 4 s1_15 fun M =>
    jn_ (fun (sa0_28 : Nat) (s1_28 : Int) (M : mm_T) =>
      pI_ M sa0_28 9 5 s1_28 fun M =>
      some ((), M)
    ) fun j28 =>
    if ¬ v1 = 0 then (
      j28 a0 v3 M
    ) else (
      j28 a0 0 M
    )
  ) fun j15 =>
  if ¬ v1 = 0 then (
    j15 a0 v2 M
  ) else (
    j15 a0 0 M
  )
def k_Reader_takesLimit (a0 : Nat) (a1 : Nat) (M : mm_T) : Option (Int × mm_T) :=
  ob_ M a0 4 <| cl_ (k_Reader_takesWord a0 M) fun c1 M =>
  if ¬ c1 = 0 then (
    ob_ M a0 4 <| cl_ (k_Reader_isWord a0 4 M) fun c12 M =>
    jn_ (fun (s0_36 : Int) (M : mm_T) =>
      lt_ s0_36 fun v2_36 =>
      if ¬ v2_36 = 0 then (
        ob_ M a0 4 <| cl_ (k_Reader_takesNumber a0 1 99 M) fun c54 M =>
        if ¬ c54 = 0 then (
          gI_ M a0 4 4 fun x63 =>
          lt_ x63 fun v3_66 =>
          ob_ M a0 4 <| cl_ (k_Reader_takesKeyword a0 6 M) fun c70 M =>
          if c70 = 0 then (
            zz_ 0 (some (0, M))
          ) else (
            ob_ M a0 4 <| cl_ (k_Reader_takesNumber a0 1 9 M) fun c80 M =>
            if ¬ c80 = 0 then (
              gI_ M a0 4 4 fun x92 =>
              ob_ M a1 9 <| cl_ (k_Told_setLimit a1 v2_36 v3_66 x92 M) fun _ M =>
              zz_ 1 (some (1, M))
            ) else (
              zz_ 0 (some (0, M))
            )
          )
        ) else (
          zz_ 0 (some (0, M))
        )
      ) else (
        gI_ M a0 4 3 fun x43 =>
        ob_ M a0 4 <| cl_ (k_Reader_miss a0 x43 M) fun c46 M =>
        zz_ c46 (some (c46, M))
      )
    ) fun j36 =>
    if c12 = 0 then (
      ob_ M a0 4 <| cl_ (k_Reader_isWord a0 5 M) fun c25 M =>
      if c25 = 0 then (
        j36 0 M
      ) else (
        j36 2 M
      )
    ) else (
      j36 1 M
    )
  ) else (
    zz_ 0 (some (0, M))
  )
def lp_Morph_put_16 (kx57 : Int → mm_T → Option (Unit × mm_T)) (a0 : Nat) (v1 : Int) (a2 : Nat) (v4 : Int) : Nat → Int → Int → mm_T → Option (Unit × mm_T)
  | 0, _, _, _ => none
  | f + 1, v5, v6, M =>
    if v4 ≤ v6 then (
      kx57 v5 M
    ) else (
      if 6 ≤ v5 then (
        kx57 v5 M
      ) else (
        gR_ M a0 2 1 fun r31 =>
        aR_ M r31 4 v1 fun r35 =>
        ob_ M a2 8 <| cl_ (k_Tape_at a2 v6 M) fun c41 M =>
        ck_ (c41 - 97) fun x46 =>
        sI_ M r35 v5 x46 fun M =>
        ck_ (v5 + 1) fun v5_48 =>
        ck_ (v6 + 1) fun v6_51 =>
        lp_Morph_put_16 kx57 a0 v1 a2 v4 f v5_48 v6_51 M
      )
    )

def k_Morph_put (a0 : Nat) (v1 : Int) (a2 : Nat) (v3 : Int) (v4 : Int) (M : mm_T) : Option (Unit × mm_T) :=
  if v1 < 0 then (
    some ((), M)
  ) else (
    if v1 < 4 then (
      lt_ (0 : Int) fun v5_11 =>
      lt_ v3 fun v6_14 =>
      lp_Morph_put_16
        (fun (v5_57 : Int) (M : mm_T) =>
          gR_ M a0 2 2 fun r58 =>
          sI_ M r58 v1 v5_57 fun M =>
          some ((), M)
        )
        a0 v1 a2 v4 FU_ v5_11 v6_14 M
    ) else (
      some ((), M)
    )
  )
def lp_Name_put_8 (kx57 : mm_T → Option (Unit × mm_T)) (a0 : Nat) (a1 : Nat) (v3 : Int) : Nat → Int → mm_T → Option (Unit × mm_T)
  | 0, _, _ => none
  | f + 1, v4, M =>
    if v3 ≤ v4 then (
      kx57 M
    ) else (
      gI_ M a0 3 1 fun x15 =>
      gR_ M a0 3 0 fun r19 =>
      al_ M r19 0 fun x22 =>
      if x22 ≤ x15 then (
        kx57 M
      ) else (
        gR_ M a0 3 0 fun r27 =>
        gI_ M a0 3 1 fun x31 =>
        ob_ M a1 8 <| cl_ (k_Tape_at a1 v4 M) fun c37 M =>
        sI_ M r27 x31 c37 fun M =>
        gI_ M a0 3 1 fun x43 =>
        ck_ (x43 + 1) fun x47 =>
        pI_ M a0 3 1 x47 fun M =>
        ck_ (v4 + 1) fun v4_51 =>
        lp_Name_put_8 kx57 a0 a1 v3 f v4_51 M
      )
    )

def k_Name_put (a0 : Nat) (a1 : Nat) (v2 : Int) (v3 : Int) (M : mm_T) : Option (Unit × mm_T) :=
  pI_ M a0 3 1 0 fun M =>
  lt_ v2 fun v4_6 =>
  lp_Name_put_8
    (fun (M : mm_T) =>
      some ((), M)
    )
    a0 a1 v3 FU_ v4_6 M
def k_Reader_isReserved (a0 : Nat) (M : mm_T) : Option (Int × mm_T) :=
  ob_ M a0 4 <| cl_ (k_Reader_isWord a0 2 M) fun c3 M =>
  jn_ (fun (M : mm_T) =>
    zz_ 1 (some (1, M))
  ) fun j72 =>
  if ¬ c3 = 0 then (
    j72 M
  ) else (
    ob_ M a0 4 <| cl_ (k_Reader_isWord a0 3 M) fun c12 M =>
    if ¬ c12 = 0 then (
      j72 M
    ) else (
      ob_ M a0 4 <| cl_ (k_Reader_isWord a0 4 M) fun c21 M =>
      if ¬ c21 = 0 then (
        j72 M
      ) else (
        ob_ M a0 4 <| cl_ (k_Reader_isWord a0 5 M) fun c30 M =>
        if ¬ c30 = 0 then (
          j72 M
        ) else (
          ob_ M a0 4 <| cl_ (k_Reader_isWord a0 6 M) fun c39 M =>
          if ¬ c39 = 0 then (
            j72 M
          ) else (
            ob_ M a0 4 <| cl_ (k_Reader_isWord a0 7 M) fun c48 M =>
            if ¬ c48 = 0 then (
              j72 M
            ) else (
              ob_ M a0 4 <| cl_ (k_Reader_isWord a0 8 M) fun c57 M =>
              if ¬ c57 = 0 then (
                j72 M
              ) else (
                ob_ M a0 4 <| cl_ (k_Reader_isWord a0 9 M) fun c66 M =>
                if c66 = 0 then (
                  zz_ 0 (some (0, M))
                ) else (
                  j72 M
                )
              )
            )
          )
        )
      )
    )
  )
def k_Told_mapAt (a0 : Nat) (v1 : Int) (M : mm_T) : Option (Nat × mm_T) :=
  jn_ (fun (M : mm_T) =>
    some (0, M)
  ) fun j22 =>
  if v1 < 0 then (
    j22 M
  ) else (
    gR_ M a0 9 0 fun r6 =>
    al_ M r6 6 fun x9 =>
    if x9 ≤ v1 then (
      j22 M
    ) else (
      gR_ M a0 9 0 fun r14 =>
      aR_ M r14 6 v1 fun r18 =>
      some (r18, M)
    )
  )
def lp_Told_isNamed_3 (kx47 : mm_T → Option (Int × mm_T)) (a0 : Nat) (a1 : Nat) (v2 : Int) (v3 : Int) : Nat → Int → mm_T → Option (Int × mm_T)
  | 0, _, _ => none
  | f + 1, v4, M =>
    gI_ M a0 9 6 fun x6 =>
    if x6 ≤ v4 then (
      kx47 M
    ) else (
      ob_ M a0 9 <| cl_ (k_Told_mapAt a0 v4 M) fun c15 M =>
      lt_ c15 fun a5_18 =>
      jn_ (fun (M : mm_T) =>
        ck_ (v4 + 1) fun v4_41 =>
        lp_Told_isNamed_3 kx47 a0 a1 v2 v3 f v4_41 M
      ) fun j41 =>
      nn_ a5_18 (
        j41 M
      ) (
        gR_ M a5_18 2 0 fun r27 =>
        ob_ M r27 3 <| cl_ (k_Name_isAt r27 a1 v2 v3 M) fun c33 M =>
        if c33 = 0 then (
          j41 M
        ) else (
          zz_ 1 (some (1, M))
        )
      )
    )

def lp_Told_isNamed_50 (kx94 : mm_T → Option (Int × mm_T)) (a0 : Nat) (a1 : Nat) (v2 : Int) (v3 : Int) : Nat → Int → mm_T → Option (Int × mm_T)
  | 0, _, _ => none
  | f + 1, v4, M =>
    gI_ M a0 9 7 fun x53 =>
    if x53 ≤ v4 then (
      kx94 M
    ) else (
      ob_ M a0 9 <| cl_ (k_Told_shapeAt a0 v4 M) fun c62 M =>
      lt_ c62 fun a5_65 =>
      jn_ (fun (M : mm_T) =>
        ck_ (v4 + 1) fun v4_88 =>
        lp_Told_isNamed_50 kx94 a0 a1 v2 v3 f v4_88 M
      ) fun j88 =>
      nn_ a5_65 (
        j88 M
      ) (
        gR_ M a5_65 6 0 fun r74 =>
        ob_ M r74 3 <| cl_ (k_Name_isAt r74 a1 v2 v3 M) fun c80 M =>
        if c80 = 0 then (
          j88 M
        ) else (
          zz_ 1 (some (1, M))
        )
      )
    )

def k_Told_isNamed (a0 : Nat) (a1 : Nat) (v2 : Int) (v3 : Int) (M : mm_T) : Option (Int × mm_T) :=
  lt_ (0 : Int) fun v4_1 =>
  lp_Told_isNamed_3
    (fun (M : mm_T) =>
      lt_ (0 : Int) fun v4_48 =>
      lp_Told_isNamed_50
        (fun (M : mm_T) =>
          zz_ 0 (some (0, M))
        )
        a0 a1 v2 v3 FU_ v4_48 M
    )
    a0 a1 v2 v3 FU_ v4_1 M
def k_Reader_takesNewName (a0 : Nat) (a1 : Nat) (a2 : Nat) (M : mm_T) : Option (Int × mm_T) :=
  ob_ M a0 4 <| cl_ (k_Reader_takesWord a0 M) fun c1 M =>
  if ¬ c1 = 0 then (
    gI_ M a0 4 1 fun x10 =>
    gI_ M a0 4 3 fun x14 =>
    ck_ (x10 - x14) fun x17 =>
    jn_ (fun (M : mm_T) =>
      gI_ M a0 4 3 fun x51 =>
      ob_ M a0 4 <| cl_ (k_Reader_miss a0 x51 M) fun c54 M =>
      zz_ c54 (some (c54, M))
    ) fun j49 =>
    if 6 < x17 then (
      j49 M
    ) else (
      ob_ M a0 4 <| cl_ (k_Reader_isReserved a0 M) fun c24 M =>
      if ¬ c24 = 0 then (
        j49 M
      ) else (
        gR_ M a0 4 0 fun r32 =>
        gI_ M a0 4 3 fun x36 =>
        gI_ M a0 4 1 fun x40 =>
        ob_ M a1 9 <| cl_ (k_Told_isNamed a1 r32 x36 x40 M) fun c43 M =>
        if c43 = 0 then (
          gR_ M a0 4 0 fun r60 =>
          gI_ M a0 4 3 fun x64 =>
          gI_ M a0 4 1 fun x68 =>
          ob_ M a2 3 <| cl_ (k_Name_put a2 r60 x64 x68 M) fun _ M =>
          zz_ 1 (some (1, M))
        ) else (
          j49 M
        )
      )
    )
  ) else (
    zz_ 0 (some (0, M))
  )
def lp_Reader_takesPart_35 (kx87 : Int → mm_T → Option (Int × mm_T)) (a0 : Nat) (v1 : Int) (v2 : Int) : Nat → Int → Int → mm_T → Option (Int × mm_T)
  | 0, _, _, _ => none
  | f + 1, v4, v5, M =>
    gI_ M a0 4 1 fun x38 =>
    if x38 ≤ v5 then (
      kx87 v4 M
    ) else (
      gR_ M a0 4 0 fun r45 =>
      ob_ M r45 8 <| cl_ (k_Tape_at r45 v5 M) fun c50 M =>
      lt_ c50 fun v6_53 =>
      jn_ (fun (s0_79 : Int) (M : mm_T) =>
        lt_ s0_79 fun v4_79 =>
        ck_ (v5 + 1) fun v5_81 =>
        lp_Reader_takesPart_35 kx87 a0 v1 v2 f v4_79 v5_81 M
      ) fun j79 =>
      jn_ (fun (M : mm_T) =>
        j79 0 M
      ) fun j78 =>
      if v4 = 0 then (
        j78 M
      ) else (
        if v6_53 < v1 then (
          j78 M
        ) else (
          ck_ (v1 + v2) fun x70 =>
          if x70 ≤ v6_53 then (
            j78 M
          ) else (
            j79 1 M
          )
        )
      )
    )

def k_Reader_takesPart (a0 : Nat) (v1 : Int) (v2 : Int) (v3 : Int) (M : mm_T) : Option (Int × mm_T) :=
  ob_ M a0 4 <| cl_ (k_Reader_takesWord a0 M) fun c1 M =>
  if ¬ c1 = 0 then (
    gI_ M a0 4 1 fun x10 =>
    gI_ M a0 4 3 fun x14 =>
    ck_ (x10 - x14) fun x17 =>
    jn_ (fun (s0_27 : Int) (M : mm_T) =>
      lt_ s0_27 fun v4_27 =>
      gI_ M a0 4 3 fun x30 =>
      lt_ x30 fun v5_33 =>
      lp_Reader_takesPart_35
        (fun (v4_87 : Int) (M : mm_T) =>
          jn_ (fun (M : mm_T) =>
            zz_ 1 (some (1, M))
          ) fun j103 =>
          if ¬ v4_87 = 0 then (
            j103 M
          ) else (
            gI_ M a0 4 3 fun x94 =>
            ob_ M a0 4 <| cl_ (k_Reader_miss a0 x94 M) fun c97 M =>
            if c97 = 0 then (
              zz_ 0 (some (0, M))
            ) else (
              j103 M
            )
          )
        )
        a0 v1 v2 FU_ v4_27 v5_33 M
    ) fun j27 =>
    if v3 < x17 then (
      j27 0 M
    ) else (
      j27 1 M
    )
  ) else (
    zz_ 0 (some (0, M))
  )
def lp_Reader_takesMap_38 (kx99 : mm_T → Option (Int × mm_T)) (a0 : Nat) (a1 : Nat) (a2 : Nat) : Nat → Int → mm_T → Option (Int × mm_T)
  | 0, _, _ => none
  | f + 1, v3, M =>
    gI_ M a1 9 2 fun x40 =>
    if x40 ≤ v3 then (
      kx99 M
    ) else (
      ck_ (97 + v3) fun x50 =>
      ob_ M a0 4 <| cl_ (k_Reader_takesPart a0 x50 1 1 M) fun c53 M =>
      if c53 = 0 then (
        zz_ 0 (some (0, M))
      ) else (
        gI_ M a1 9 2 fun x63 =>
        ob_ M a0 4 <| cl_ (k_Reader_takesPart a0 97 x63 6 M) fun c68 M =>
        if ¬ c68 = 0 then (
          gR_ M a0 4 0 fun r79 =>
          gI_ M a0 4 3 fun x83 =>
          gI_ M a0 4 1 fun x87 =>
          ob_ M a2 2 <| cl_ (k_Morph_put a2 v3 r79 x83 x87 M) fun _ M =>
          ck_ (v3 + 1) fun v3_93 =>
          lp_Reader_takesMap_38 kx99 a0 a1 a2 f v3_93 M
        ) else (
          zz_ 0 (some (0, M))
        )
      )
    )

def k_Reader_takesMap (a0 : Nat) (a1 : Nat) (M : mm_T) : Option (Int × mm_T) :=
  gI_ M a1 9 6 fun x2 =>
  ob_ M a1 9 <| cl_ (k_Told_mapAt a1 x2 M) fun c5 M =>
  lt_ c5 fun a2_8 =>
  nn_ a2_8 (
    gI_ M a0 4 3 fun x15 =>
    ob_ M a0 4 <| cl_ (k_Reader_miss a0 x15 M) fun c18 M =>
    zz_ c18 (some (c18, M))
  ) (
    gR_ M a2_8 2 0 fun r25 =>
    ob_ M a0 4 <| cl_ (k_Reader_takesNewName a0 a1 r25 M) fun c28 M =>
    if ¬ c28 = 0 then (
      lt_ (0 : Int) fun v3_37 =>
      lp_Reader_takesMap_38
        (fun (M : mm_T) =>
          gI_ M a1 9 6 fun x101 =>
          ck_ (x101 + 1) fun x105 =>
          pI_ M a1 9 6 x105 fun M =>
          zz_ 1 (some (1, M))
        )
        a0 a1 a2_8 FU_ v3_37 M
    ) else (
      zz_ 0 (some (0, M))
    )
  )
def k_Shape_at (a0 : Nat) (v1 : Int) (M : mm_T) : Option (Int × mm_T) :=
  jn_ (fun (M : mm_T) =>
    some (0, M)
  ) fun j30 =>
  if v1 < 0 then (
    j30 M
  ) else (
    gI_ M a0 6 2 fun x6 =>
    if x6 ≤ v1 then (
      j30 M
    ) else (
      gR_ M a0 6 1 fun r14 =>
      al_ M r14 0 fun x17 =>
      if x17 ≤ v1 then (
        j30 M
      ) else (
        gR_ M a0 6 1 fun r22 =>
        aI_ M r22 0 v1 fun x26 =>
        some (x26, M)
      )
    )
  )
def lp_Shape_times_4 (kx30 : Int → mm_T → Option (Int × mm_T)) (a0 : Nat) (v1 : Int) : Nat → Int → Int → mm_T → Option (Int × mm_T)
  | 0, _, _, _ => none
  | f + 1, v2, v3, M =>
    gI_ M a0 6 2 fun x6 =>
    if x6 ≤ v3 then (
      kx30 v2 M
    ) else (
      ob_ M a0 6 <| cl_ (k_Shape_at a0 v3 M) fun c14 M =>
      jn_ (fun (v2_24 : Int) (M : mm_T) =>
        ck_ (v3 + 1) fun v3_24 =>
        lp_Shape_times_4 kx30 a0 v1 f v2_24 v3_24 M
      ) fun j24 =>
      if ¬ c14 = v1 then (
        j24 v2 M
      ) else (
        ck_ (v2 + 1) fun v2_21 =>
        j24 v2_21 M
      )
    )

def k_Shape_times (a0 : Nat) (v1 : Int) (M : mm_T) : Option (Int × mm_T) :=
  lt_ (0 : Int) fun v2_1 =>
  lt_ (0 : Int) fun v3_3 =>
  lp_Shape_times_4
    (fun (v2_30 : Int) (M : mm_T) =>
      some (v2_30, M)
    )
    a0 v1 FU_ v2_1 v3_3 M
def lp_Shape_needingOne_4 (kx41 : Int → mm_T → Option (Int × mm_T)) (a0 : Nat) : Nat → Int → Int → mm_T → Option (Int × mm_T)
  | 0, _, _, _ => none
  | f + 1, v1, v2, M =>
    gI_ M a0 6 2 fun x6 =>
    if x6 ≤ v2 then (
      kx41 v1 M
    ) else (
      ob_ M a0 6 <| cl_ (k_Shape_at a0 v2 M) fun c16 M =>
      ob_ M a0 6 <| cl_ (k_Shape_times a0 c16 M) fun c19 M =>
      jn_ (fun (s0_33 : Int) (s1_33 : Int) (M : mm_T) =>
        lt_ (or_ s0_33 s1_33) fun v1_34 =>
        ck_ (v2 + 1) fun v2_35 =>
        lp_Shape_needingOne_4 kx41 a0 f v1_34 v2_35 M
      ) fun j33 =>
      if ¬ c19 = 1 then (
        j33 v1 0 M
      ) else (
        j33 v1 (shl_ 1 v2) M
      )
    )

def lp_Shape_needingOne_49 (kx77 : Int → mm_T → Option (Int × mm_T)) (a0 : Nat) (v1 : Int) : Nat → Int → Int → mm_T → Option (Int × mm_T)
  | 0, _, _, _ => none
  | f + 1, v2, v3, M =>
    gI_ M a0 6 2 fun x51 =>
    if x51 ≤ v3 then (
      kx77 v2 M
    ) else (
      if and_ (shr_ v1 v3) 1 = 0 then (
        kx77 v2 M
      ) else (
        lt_ (or_ v2 (shl_ 1 v3)) fun v2_70 =>
        ck_ (v3 + 1) fun v3_71 =>
        lp_Shape_needingOne_49 kx77 a0 v1 f v2_70 v3_71 M
      )
    )

def lp_Shape_needingOne_84 (kx108 : Int → mm_T → Option (Int × mm_T)) (v1 : Int) : Nat → Int → Int → mm_T → Option (Int × mm_T)
  | 0, _, _, _ => none
  | f + 1, v2, v3, M =>
    if v3 < 0 then (
      kx108 v2 M
    ) else (
      if and_ (shr_ v1 v3) 1 = 0 then (
        kx108 v2 M
      ) else (
        lt_ (or_ v2 (shl_ 1 v3)) fun v2_101 =>
        ck_ (v3 + (-1)) fun v3_102 =>
        lp_Shape_needingOne_84 kx108 v1 f v2_101 v3_102 M
      )
    )

def k_Shape_needingOne (a0 : Nat) (M : mm_T) : Option (Int × mm_T) :=
  lt_ (0 : Int) fun v1_1 =>
  lt_ (0 : Int) fun v2_3 =>
  lp_Shape_needingOne_4
    (fun (v1_41 : Int) (M : mm_T) =>
      lt_ (and_ v1_41 (shl_ v1_41 1)) fun v2_46 =>
      lt_ (0 : Int) fun v3_48 =>
      lp_Shape_needingOne_49
        (fun (v2_77 : Int) (M : mm_T) =>
          gI_ M a0 6 2 fun x78 =>
          ck_ (x78 - 1) fun x82 =>
          lt_ x82 fun v3_83 =>
          lp_Shape_needingOne_84
            (fun (v2_108 : Int) (M : mm_T) =>
              some (v2_108, M)
            )
            v1_41 FU_ v2_77 v3_83 M
        )
        a0 v1_41 FU_ v2_46 v3_48 M
    )
    a0 FU_ v1_1 v2_3 M
def lp_Shape_put_13 (kx65 : mm_T → Option (Unit × mm_T)) (a0 : Nat) (a1 : Nat) (v3 : Int) : Nat → Int → mm_T → Option (Unit × mm_T)
  | 0, _, _ => none
  | f + 1, v4, M =>
    if v3 ≤ v4 then (
      kx65 M
    ) else (
      gI_ M a0 6 2 fun x20 =>
      gR_ M a0 6 1 fun r24 =>
      al_ M r24 0 fun x27 =>
      if x27 ≤ x20 then (
        kx65 M
      ) else (
        gR_ M a0 6 1 fun r32 =>
        gI_ M a0 6 2 fun x36 =>
        ob_ M a1 8 <| cl_ (k_Tape_at a1 v4 M) fun c42 M =>
        ck_ (c42 - 120) fun x47 =>
        sI_ M r32 x36 x47 fun M =>
        gI_ M a0 6 2 fun x51 =>
        ck_ (x51 + 1) fun x55 =>
        pI_ M a0 6 2 x55 fun M =>
        ck_ (v4 + 1) fun v4_59 =>
        lp_Shape_put_13 kx65 a0 a1 v3 f v4_59 M
      )
    )

def k_Shape_put (a0 : Nat) (a1 : Nat) (v2 : Int) (v3 : Int) (M : mm_T) : Option (Unit × mm_T) :=
  pI_ M a0 6 2 0 fun M =>
  pZ_ M a0 6 4 0 fun M =>
  lt_ v2 fun v4_11 =>
  lp_Shape_put_13
    (fun (M : mm_T) =>
      ob_ M a0 6 <| cl_ (k_Shape_needingOne a0 M) fun c67 M =>
      pI_ M a0 6 3 c67 fun M =>
      some ((), M)
    )
    a0 a1 v3 FU_ v4_11 M
def k_Reader_takesShape (a0 : Nat) (a1 : Nat) (M : mm_T) : Option (Int × mm_T) :=
  gI_ M a1 9 7 fun x2 =>
  ob_ M a1 9 <| cl_ (k_Told_shapeAt a1 x2 M) fun c5 M =>
  lt_ c5 fun a2_8 =>
  nn_ a2_8 (
    gI_ M a0 4 3 fun x15 =>
    ob_ M a0 4 <| cl_ (k_Reader_miss a0 x15 M) fun c18 M =>
    zz_ c18 (some (c18, M))
  ) (
    gR_ M a2_8 6 0 fun r25 =>
    ob_ M a0 4 <| cl_ (k_Reader_takesNewName a0 a1 r25 M) fun c28 M =>
    if c28 = 0 then (
      zz_ 0 (some (0, M))
    ) else (
      ob_ M a0 4 <| cl_ (k_Reader_takesPart a0 120 3 6 M) fun c40 M =>
      if ¬ c40 = 0 then (
        gR_ M a0 4 0 fun r50 =>
        gI_ M a0 4 3 fun x54 =>
        gI_ M a0 4 1 fun x58 =>
        ob_ M a2_8 6 <| cl_ (k_Shape_put a2_8 r50 x54 x58 M) fun _ M =>
        gI_ M a1 9 7 fun x66 =>
        ck_ (x66 + 1) fun x70 =>
        pI_ M a1 9 7 x70 fun M =>
        zz_ 1 (some (1, M))
      ) else (
        zz_ 0 (some (0, M))
      )
    )
  )
def k_Reader_takesLine (a0 : Nat) (a1 : Nat) (M : mm_T) : Option (Int × mm_T) :=
  ob_ M a0 4 <| cl_ (k_Reader_takesWord a0 M) fun c1 M =>
  if ¬ c1 = 0 then (
    ob_ M a0 4 <| cl_ (k_Reader_isWord a0 3 M) fun c12 M =>
    jn_ (fun (M : mm_T) =>
      ob_ M a0 4 <| cl_ (k_Reader_isWord a0 7 M) fun c34 M =>
      if c34 = 0 then (
        ob_ M a0 4 <| cl_ (k_Reader_isWord a0 8 M) fun c49 M =>
        if c49 = 0 then (
          ob_ M a0 4 <| cl_ (k_Reader_isWord a0 9 M) fun c64 M =>
          if c64 = 0 then (
            gI_ M a0 4 3 fun x80 =>
            ob_ M a0 4 <| cl_ (k_Reader_miss a0 x80 M) fun c83 M =>
            zz_ c83 (some (c83, M))
          ) else (
            ob_ M a0 4 <| cl_ (k_Reader_takesAvoid a0 a1 M) fun c72 M =>
            zz_ c72 (some (c72, M))
          )
        ) else (
          ob_ M a0 4 <| cl_ (k_Reader_takesShape a0 a1 M) fun c57 M =>
          zz_ c57 (some (c57, M))
        )
      ) else (
        ob_ M a0 4 <| cl_ (k_Reader_takesMap a0 a1 M) fun c42 M =>
        zz_ c42 (some (c42, M))
      )
    ) fun j31 =>
    if c12 = 0 then (
      j31 M
    ) else (
      gI_ M a1 9 3 fun x19 =>
      if ¬ x19 = 0 then (
        j31 M
      ) else (
        ob_ M a0 4 <| cl_ (k_Reader_takesLimit a0 a1 M) fun c27 M =>
        zz_ c27 (some (c27, M))
      )
    )
  ) else (
    zz_ 0 (some (0, M))
  )
def k_Reader_takesSign (a0 : Nat) (v1 : Int) (M : mm_T) : Option (Int × mm_T) :=
  ob_ M a0 4 <| cl_ (k_Reader_skipBlanks a0 M) fun _ M =>
  gR_ M a0 4 0 fun r5 =>
  gI_ M a0 4 1 fun x9 =>
  ob_ M r5 8 <| cl_ (k_Tape_at r5 x9 M) fun c12 M =>
  if c12 = v1 then (
    gI_ M a0 4 1 fun x30 =>
    ck_ (x30 + 1) fun x34 =>
    pI_ M a0 4 1 x34 fun M =>
    zz_ 1 (some (1, M))
  ) else (
    gI_ M a0 4 1 fun x21 =>
    ob_ M a0 4 <| cl_ (k_Reader_miss a0 x21 M) fun c24 M =>
    zz_ c24 (some (c24, M))
  )
def k_Told_clear (a0 : Nat) (M : mm_T) : Option (Unit × mm_T) :=
  pI_ M a0 9 2 2 fun M =>
  ob_ M a0 9 <| cl_ (k_Told_setLimit a0 0 0 0 M) fun _ M =>
  pI_ M a0 9 6 0 fun M =>
  pI_ M a0 9 7 0 fun M =>
  some ((), M)
def lp_Reader_takesText_49 (kx107 : Int → mm_T → Option (Int × mm_T)) (a0 : Nat) (a1 : Nat) : Nat → Int → Int → mm_T → Option (Int × mm_T)
  | 0, _, _, _ => none
  | f + 1, v2, v3, M =>
    if 400 ≤ v3 then (
      kx107 v2 M
    ) else (
      if v2 = 0 then (
        kx107 v2 M
      ) else (
        gI_ M a0 4 1 fun x61 =>
        gR_ M a0 4 0 fun r65 =>
        gI_ M r65 8 1 fun x68 =>
        if x68 ≤ x61 then (
          kx107 v2 M
        ) else (
          ob_ M a0 4 <| cl_ (k_Reader_takesLine a0 a1 M) fun c76 M =>
          jn_ (fun (s0_96 : Int) (M : mm_T) =>
            lt_ s0_96 fun v2_96 =>
            ob_ M a0 4 <| cl_ (k_Reader_skipBlanks a0 M) fun _ M =>
            ck_ (v3 + 1) fun v3_101 =>
            lp_Reader_takesText_49 kx107 a0 a1 f v2_96 v3_101 M
          ) fun j96 =>
          jn_ (fun (M : mm_T) =>
            j96 0 M
          ) fun j95 =>
          if c76 = 0 then (
            j95 M
          ) else (
            ob_ M a0 4 <| cl_ (k_Reader_takesSign a0 59 M) fun c85 M =>
            if c85 = 0 then (
              j95 M
            ) else (
              j96 1 M
            )
          )
        )
      )
    )

def k_Reader_takesText (a0 : Nat) (a1 : Nat) (M : mm_T) : Option (Int × mm_T) :=
  ob_ M a0 4 <| cl_ (k_Reader_begin a0 M) fun _ M =>
  ob_ M a1 9 <| cl_ (k_Told_clear a1 M) fun _ M =>
  ob_ M a0 4 <| cl_ (k_Reader_takesKeyword a0 2 M) fun c11 M =>
  if c11 = 0 then (
    zz_ 0 (some (0, M))
  ) else (
    ob_ M a0 4 <| cl_ (k_Reader_takesNumber a0 2 4 M) fun c20 M =>
    if ¬ c20 = 0 then (
      gI_ M a0 4 4 fun x30 =>
      pI_ M a1 9 2 x30 fun M =>
      ob_ M a0 4 <| cl_ (k_Reader_takesSign a0 59 M) fun c39 M =>
      lt_ c39 fun v2_42 =>
      ob_ M a0 4 <| cl_ (k_Reader_skipBlanks a0 M) fun _ M =>
      lt_ (0 : Int) fun v3_48 =>
      lp_Reader_takesText_49
        (fun (v2_107 : Int) (M : mm_T) =>
          zz_ v2_107 (some (v2_107, M))
        )
        a0 a1 FU_ v2_42 v3_48 M
    ) else (
      zz_ 0 (some (0, M))
    )
  )
def k_X_read (a0 : Nat) (M : mm_T) : Option ((Nat ⊕ Int) × mm_T) :=
  gR_ M a0 10 0 fun r1 =>
  gR_ M a0 10 2 fun r5 =>
  ob_ M r1 4 <| cl_ (k_Reader_takesText r1 r5 M) fun c8 M =>
  lt_ c8 fun v1_11 =>
  gR_ M a0 10 0 fun r13 =>
  gR_ M r13 4 0 fun r16 =>
  pI_ M r16 8 1 0 fun M =>
  if ¬ v1_11 = 0 then (
    gR_ M a0 10 1 fun r36 =>
    lt_ r36 fun a2_39 =>
    gR_ M a0 10 2 fun r42 =>
    pR_ M a0 10 1 r42 fun M =>
    pR_ M a0 10 2 a2_39 fun M =>
    gR_ M a0 10 3 fun r54 =>
    ob_ M r54 1 <| cl_ (k_Line_clear r54 M) fun _ M =>
    gR_ M a0 10 7 fun r61 =>
    ob_ M r61 0 <| cl_ (k_Acts_clear r61 M) fun _ M =>
    gR_ M a0 10 1 fun r68 =>
    gI_ M r68 9 2 fun x71 =>
    some (.inr x71, M)
  ) else (
    th_ M 1
  )
def k_Line_at (a0 : Nat) (v1 : Int) (M : mm_T) : Option (Int × mm_T) :=
  jn_ (fun (M : mm_T) =>
    some ((-1), M)
  ) fun j30 =>
  if v1 < 0 then (
    j30 M
  ) else (
    gI_ M a0 1 4 fun x6 =>
    if x6 ≤ v1 then (
      j30 M
    ) else (
      gR_ M a0 1 0 fun r14 =>
      al_ M r14 0 fun x17 =>
      if x17 ≤ v1 then (
        j30 M
      ) else (
        gR_ M a0 1 0 fun r22 =>
        aI_ M r22 0 v1 fun x26 =>
        some (x26, M)
      )
    )
  )
def lp_Acts_keep_29 (kx57 : mm_T → Option (Unit × mm_T)) (a1 : Nat) (a2 : Nat) : Nat → Int → mm_T → Option (Unit × mm_T)
  | 0, _, _ => none
  | f + 1, v3, M =>
    gI_ M a1 1 4 fun x31 =>
    if x31 ≤ v3 then (
      kx57 M
    ) else (
      al_ M a2 0 fun x39 =>
      if x39 ≤ v3 then (
        kx57 M
      ) else (
        ob_ M a1 1 <| cl_ (k_Line_at a1 v3 M) fun c47 M =>
        sI_ M a2 v3 c47 fun M =>
        ck_ (v3 + 1) fun v3_51 =>
        lp_Acts_keep_29 kx57 a1 a2 f v3_51 M
      )
    )

def k_Acts_keep (a0 : Nat) (a1 : Nat) (M : mm_T) : Option (Unit × mm_T) :=
  gI_ M a0 0 2 fun x1 =>
  if x1 < 0 then (
    some ((), M)
  ) else (
    gI_ M a0 0 2 fun x8 =>
    if x8 < 10 then (
      gR_ M a0 0 0 fun r18 =>
      gI_ M a0 0 2 fun x22 =>
      aR_ M r18 4 x22 fun r25 =>
      lt_ r25 fun a2_26 =>
      lt_ (0 : Int) fun v3_28 =>
      lp_Acts_keep_29
        (fun (M : mm_T) =>
          gR_ M a0 0 1 fun r58 =>
          gI_ M a0 0 2 fun x62 =>
          gI_ M a1 1 4 fun x66 =>
          sI_ M r58 x62 x66 fun M =>
          gI_ M a0 0 2 fun x72 =>
          ck_ (x72 + 1) fun x76 =>
          rm_ x76 10 fun x79 =>
          pI_ M a0 0 2 x79 fun M =>
          gI_ M a0 0 3 fun x87 =>
          ck_ (x87 + 1) fun x91 =>
          pI_ M a0 0 3 (mn_ 10 x91) fun M =>
          some ((), M)
        )
        a1 a2_26 FU_ v3_28 M
    ) else (
      some ((), M)
    )
  )
def lp_Line_add_50 (kx113 : Int → mm_T → Option (Unit × mm_T)) (a0 : Nat) (v1 : Int) (v2 : Int) (a3 : Nat) (a4 : Nat) : Nat → Int → Int → mm_T → Option (Unit × mm_T)
  | 0, _, _, _ => none
  | f + 1, v5, v6, M =>
    if v2 ≤ v6 then (
      kx113 v5 M
    ) else (
      lt_ (0 : Int) fun v7_57 =>
      gR_ M a0 1 0 fun r60 =>
      aI_ M r60 0 v6 fun x65 =>
      jn_ (fun (v7_90 : Int) (M : mm_T) =>
        sI_ M a3 v6 v7_90 fun M =>
        jn_ (fun (v5_107 : Int) (M : mm_T) =>
          ck_ (v6 + 1) fun v6_107 =>
          lp_Line_add_50 kx113 a0 v1 v2 a3 a4 f v5_107 v6_107 M
        ) fun j107 =>
        if v7_90 ≤ v5 then (
          j107 v5 M
        ) else (
          lt_ v7_90 fun v5_105 =>
          j107 v5_105 M
        )
      ) fun j90 =>
      if ¬ x65 = v1 then (
        j90 v7_57 M
      ) else (
        jn_ (fun (s0_88 : Int) (M : mm_T) =>
          lt_ s0_88 fun v7_88 =>
          j90 v7_88 M
        ) fun j88 =>
        if ¬ v6 = 0 then (
          ck_ (v6 - 1) fun x84 =>
          aI_ M a4 0 x84 fun x85 =>
          ck_ (x85 + 1) fun x87 =>
          j88 x87 M
        ) else (
          j88 1 M
        )
      )
    )

def k_Line_add (a0 : Nat) (v1 : Int) (M : mm_T) : Option (Unit × mm_T) :=
  gI_ M a0 1 4 fun x1 =>
  lt_ x1 fun v2_4 =>
  if v2_4 < 0 then (
    some ((), M)
  ) else (
    if v2_4 < 64 then (
      gR_ M a0 1 0 fun r17 =>
      sI_ M r17 v2_4 v1 fun M =>
      gR_ M a0 1 1 fun r24 =>
      aR_ M r24 4 v2_4 fun r28 =>
      lt_ r28 fun a3_29 =>
      gR_ M a0 1 1 fun r31 =>
      ck_ (v2_4 - 1) fun x37 =>
      aR_ M r31 4 (mx_ 0 x37) fun r41 =>
      lt_ r41 fun a4_42 =>
      lt_ (0 : Int) fun v5_45 =>
      lt_ (0 : Int) fun v6_48 =>
      lp_Line_add_50
        (fun (v5_113 : Int) (M : mm_T) =>
          gR_ M a0 1 2 fun r114 =>
          sI_ M r114 v2_4 v5_113 fun M =>
          ck_ (v2_4 + 1) fun x124 =>
          pI_ M a0 1 4 x124 fun M =>
          some ((), M)
        )
        a0 v1 v2_4 a3_29 a4_42 FU_ v5_45 v6_48 M
    ) else (
      some ((), M)
    )
  )
def lp_Line_copy_6 (kx26 : mm_T → Option (Unit × mm_T)) (a0 : Nat) (a1 : Nat) (v2 : Int) : Nat → Int → mm_T → Option (Unit × mm_T)
  | 0, _, _ => none
  | f + 1, v3, M =>
    if v2 ≤ v3 then (
      kx26 M
    ) else (
      ob_ M a1 1 <| cl_ (k_Line_at a1 v3 M) fun c14 M =>
      ob_ M a0 1 <| cl_ (k_Line_add a0 c14 M) fun _ M =>
      ck_ (v3 + 1) fun v3_20 =>
      lp_Line_copy_6 kx26 a0 a1 v2 f v3_20 M
    )

def k_Line_copy (a0 : Nat) (a1 : Nat) (v2 : Int) (M : mm_T) : Option (Unit × mm_T) :=
  ob_ M a0 1 <| cl_ (k_Line_clear a0 M) fun _ M =>
  lt_ (0 : Int) fun v3_5 =>
  lp_Line_copy_6
    (fun (M : mm_T) =>
      some ((), M)
    )
    a0 a1 v2 FU_ v3_5 M
def k_X_become (a0 : Nat) (a1 : Nat) (M : mm_T) : Option (Unit × mm_T) :=
  gR_ M a0 10 7 fun r1 =>
  gR_ M a0 10 3 fun r5 =>
  ob_ M r1 0 <| cl_ (k_Acts_keep r1 r5 M) fun _ M =>
  gR_ M a0 10 3 fun r12 =>
  gI_ M a1 1 4 fun x17 =>
  ob_ M r12 1 <| cl_ (k_Line_copy r12 a1 x17 M) fun _ M =>
  some ((), M)
def lp_Reader_takesLetters_12 (kx110 : mm_T → Option (Int × mm_T)) (a0 : Nat) (v1 : Int) (a2 : Nat) : Nat → mm_T → Option (Int × mm_T)
  | 0, _ => none
  | f + 1, M =>
    gI_ M a0 4 1 fun x13 =>
    gR_ M a0 4 0 fun r17 =>
    gI_ M r17 8 1 fun x20 =>
    if x20 ≤ x13 then (
      kx110 M
    ) else (
      gR_ M a0 4 0 fun r27 =>
      gI_ M a0 4 1 fun x31 =>
      ob_ M r27 8 <| cl_ (k_Tape_at r27 x31 M) fun c34 M =>
      cl_ (k_Tape_isSmall c34 M) fun c37 M =>
      if c37 = 0 then (
        kx110 M
      ) else (
        gR_ M a0 4 0 fun r44 =>
        gI_ M a0 4 1 fun x48 =>
        ob_ M r44 8 <| cl_ (k_Tape_at r44 x48 M) fun c51 M =>
        ck_ (c51 - 97) fun x56 =>
        if v1 ≤ x56 then (
          kx110 M
        ) else (
          gI_ M a2 1 4 fun x62 =>
          if x62 < 64 then (
            gR_ M a0 4 0 fun r81 =>
            gI_ M a0 4 1 fun x85 =>
            ob_ M r81 8 <| cl_ (k_Tape_at r81 x85 M) fun c88 M =>
            ck_ (c88 - 97) fun x93 =>
            ob_ M a2 1 <| cl_ (k_Line_add a2 x93 M) fun _ M =>
            gI_ M a0 4 1 fun x99 =>
            ck_ (x99 + 1) fun x103 =>
            pI_ M a0 4 1 x103 fun M =>
            lp_Reader_takesLetters_12 kx110 a0 v1 a2 f M
          ) else (
            gI_ M a0 4 1 fun x72 =>
            ob_ M a0 4 <| cl_ (k_Reader_miss a0 x72 M) fun c75 M =>
            zz_ c75 (some (c75, M))
          )
        )
      )
    )

def k_Reader_takesLetters (a0 : Nat) (v1 : Int) (a2 : Nat) (M : mm_T) : Option (Int × mm_T) :=
  ob_ M a0 4 <| cl_ (k_Reader_begin a0 M) fun _ M =>
  ob_ M a2 1 <| cl_ (k_Line_clear a2 M) fun _ M =>
  ob_ M a0 4 <| cl_ (k_Reader_skipBlanks a0 M) fun _ M =>
  lp_Reader_takesLetters_12
    (fun (M : mm_T) =>
      ob_ M a0 4 <| cl_ (k_Reader_skipBlanks a0 M) fun _ M =>
      gI_ M a0 4 1 fun x115 =>
      gR_ M a0 4 0 fun r119 =>
      gI_ M r119 8 1 fun x122 =>
      jn_ (fun (M : mm_T) =>
        zz_ 1 (some (1, M))
      ) fun j139 =>
      if x122 ≤ x115 then (
        j139 M
      ) else (
        gI_ M a0 4 1 fun x130 =>
        ob_ M a0 4 <| cl_ (k_Reader_miss a0 x130 M) fun c133 M =>
        if c133 = 0 then (
          zz_ 0 (some (0, M))
        ) else (
          j139 M
        )
      )
    )
    a0 v1 a2 FU_ M
def k_X_word (a0 : Nat) (M : mm_T) : Option ((Nat ⊕ Int) × mm_T) :=
  gR_ M a0 10 0 fun r1 =>
  gR_ M a0 10 1 fun r5 =>
  gI_ M r5 9 2 fun x8 =>
  gR_ M a0 10 4 fun r12 =>
  ob_ M r1 4 <| cl_ (k_Reader_takesLetters r1 x8 r12 M) fun c15 M =>
  lt_ c15 fun v1_18 =>
  gR_ M a0 10 0 fun r20 =>
  gR_ M r20 4 0 fun r23 =>
  pI_ M r23 8 1 0 fun M =>
  if ¬ v1_18 = 0 then (
    gR_ M a0 10 4 fun r44 =>
    ob_ M a0 10 <| cl_ (k_X_become a0 r44 M) fun _ M =>
    gR_ M a0 10 3 fun r51 =>
    gI_ M r51 1 4 fun x54 =>
    some (.inr x54, M)
  ) else (
    th_ M 1
  )
def k_X_fault (a0 : Nat) (M : mm_T) : Option (Int × mm_T) :=
  gR_ M a0 10 0 fun r1 =>
  gI_ M r1 4 2 fun x4 =>
  some (x4, M)
def k_X_letter (a0 : Nat) (v1 : Int) (M : mm_T) : Option (Int × mm_T) :=
  gR_ M a0 10 3 fun r1 =>
  ob_ M r1 1 <| cl_ (k_Line_at r1 v1 M) fun c5 M =>
  some (c5, M)
def k_X_checkLetter (a0 : Nat) (v1 : Int) (M : mm_T) : Option ((Nat ⊕ Unit) × mm_T) :=
  jn_ (fun (M : mm_T) =>
    th_ M 1
  ) fun j15 =>
  if v1 < 0 then (
    j15 M
  ) else (
    gR_ M a0 10 1 fun r6 =>
    gI_ M r6 9 2 fun x9 =>
    if v1 < x9 then (
      some (.inr (), M)
    ) else (
      j15 M
    )
  )
def k_X_push (a0 : Nat) (v1 : Int) (M : mm_T) : Option ((Nat ⊕ Int) × mm_T) :=
  ob_ M a0 10 <| cx_ (k_X_checkLetter a0 v1 M) (fun E M => some (.inl E, M)) fun _ M =>
  gR_ M a0 10 3 fun r6 =>
  gI_ M r6 1 4 fun x9 =>
  if x9 < 64 then (
    gR_ M a0 10 7 fun r26 =>
    gR_ M a0 10 3 fun r30 =>
    ob_ M r26 0 <| cl_ (k_Acts_keep r26 r30 M) fun _ M =>
    gR_ M a0 10 3 fun r37 =>
    ob_ M r37 1 <| cl_ (k_Line_add r37 v1 M) fun _ M =>
    gR_ M a0 10 3 fun r45 =>
    gI_ M r45 1 4 fun x48 =>
    some (.inr x48, M)
  ) else (
    th_ M 2
  )
def k_Line_cutTo (a0 : Nat) (v1 : Int) (M : mm_T) : Option (Unit × mm_T) :=
  gI_ M a0 1 4 fun x3 =>
  pI_ M a0 1 4 (mx_ 0 (mn_ x3 v1)) fun M =>
  some ((), M)
def k_Line_dropLast (a0 : Nat) (M : mm_T) : Option (Int × mm_T) :=
  gI_ M a0 1 4 fun x2 =>
  ck_ (x2 - 1) fun x6 =>
  ob_ M a0 1 <| cl_ (k_Line_at a0 x6 M) fun c7 M =>
  lt_ c7 fun v1_10 =>
  gI_ M a0 1 4 fun x13 =>
  ck_ (x13 - 1) fun x17 =>
  ob_ M a0 1 <| cl_ (k_Line_cutTo a0 x17 M) fun _ M =>
  some (v1_10, M)
def k_X_pop (a0 : Nat) (M : mm_T) : Option ((Nat ⊕ Int) × mm_T) :=
  gR_ M a0 10 3 fun r1 =>
  gI_ M r1 1 4 fun x4 =>
  if ¬ x4 = 0 then (
    gR_ M a0 10 7 fun r19 =>
    gR_ M a0 10 3 fun r23 =>
    ob_ M r19 0 <| cl_ (k_Acts_keep r19 r23 M) fun _ M =>
    gR_ M a0 10 3 fun r30 =>
    ob_ M r30 1 <| cl_ (k_Line_dropLast r30 M) fun c33 M =>
    some (.inr c33, M)
  ) else (
    th_ M 2
  )
def lp_Acts_takeBack_48 (kx80 : mm_T → Option (Int × mm_T)) (a0 : Nat) (a1 : Nat) (v2 : Int) (a3 : Nat) : Nat → Int → mm_T → Option (Int × mm_T)
  | 0, _, _ => none
  | f + 1, v4, M =>
    gR_ M a0 0 1 fun r51 =>
    aI_ M r51 0 v2 fun x55 =>
    if x55 ≤ v4 then (
      kx80 M
    ) else (
      al_ M a3 0 fun x62 =>
      if x62 ≤ v4 then (
        kx80 M
      ) else (
        aI_ M a3 0 v4 fun x70 =>
        ob_ M a1 1 <| cl_ (k_Line_add a1 x70 M) fun _ M =>
        ck_ (v4 + 1) fun v4_74 =>
        lp_Acts_takeBack_48 kx80 a0 a1 v2 a3 f v4_74 M
      )
    )

def k_Acts_takeBack (a0 : Nat) (a1 : Nat) (M : mm_T) : Option (Int × mm_T) :=
  gI_ M a0 0 3 fun x1 =>
  if ¬ x1 = 0 then (
    gI_ M a0 0 2 fun x10 =>
    ck_ (x10 + 10) fun x15 =>
    ck_ (x15 - 1) fun x17 =>
    rm_ x17 10 fun x20 =>
    lt_ x20 fun v2_21 =>
    if v2_21 < 0 then (
      zz_ 0 (some (0, M))
    ) else (
      if v2_21 < 10 then (
        gR_ M a0 0 0 fun r35 =>
        aR_ M r35 4 v2_21 fun r39 =>
        lt_ r39 fun a3_40 =>
        ob_ M a1 1 <| cl_ (k_Line_clear a1 M) fun _ M =>
        lt_ (0 : Int) fun v4_46 =>
        lp_Acts_takeBack_48
          (fun (M : mm_T) =>
            pI_ M a0 0 2 v2_21 fun M =>
            gI_ M a0 0 3 fun x87 =>
            ck_ (x87 - 1) fun x91 =>
            pI_ M a0 0 3 x91 fun M =>
            zz_ 1 (some (1, M))
          )
          a0 a1 v2_21 a3_40 FU_ v4_46 M
      ) else (
        zz_ 0 (some (0, M))
      )
    )
  ) else (
    zz_ 0 (some (0, M))
  )
def k_X_undo (a0 : Nat) (M : mm_T) : Option (Int × mm_T) :=
  gR_ M a0 10 7 fun r1 =>
  gR_ M a0 10 3 fun r5 =>
  ob_ M r1 0 <| cl_ (k_Acts_takeBack r1 r5 M) fun c8 M =>
  if c8 = 0 then (
    some ((-1), M)
  ) else (
    gR_ M a0 10 7 fun r15 =>
    gI_ M r15 0 3 fun x18 =>
    some (x18, M)
  )
def k_X_checkRange (a0 : Nat) (v1 : Int) (v2 : Int) (v3 : Int) (M : mm_T) : Option ((Nat ⊕ Unit) × mm_T) :=
  jn_ (fun (M : mm_T) =>
    th_ M 1
  ) fun j10 =>
  if v1 < v2 then (
    j10 M
  ) else (
    if v1 ≤ v3 then (
      some (.inr (), M)
    ) else (
      j10 M
    )
  )
def k_X_checkWhat (a0 : Nat) (v1 : Int) (v2 : Int) (M : mm_T) : Option ((Nat ⊕ Unit) × mm_T) :=
  jn_ (fun (M : mm_T) =>
    th_ M 4
  ) fun j9 =>
  if v1 < 0 then (
    j9 M
  ) else (
    if v1 ≤ v2 then (
      some (.inr (), M)
    ) else (
      j9 M
    )
  )
def k_X_mapOf (a0 : Nat) (v1 : Int) (M : mm_T) : Option ((Nat ⊕ Nat) × mm_T) :=
  gR_ M a0 10 1 fun r2 =>
  gI_ M r2 9 6 fun x5 =>
  jn_ (fun (sa0_23 : Nat) (M : mm_T) =>
    lt_ sa0_23 fun a2_23 =>
    nn_ a2_23 (
      th_ M 3
    ) (
      some (.inr a2_23, M)
    )
  ) fun j23 =>
  if x5 ≤ v1 then (
    j23 0 M
  ) else (
    gR_ M a0 10 1 fun r12 =>
    ob_ M r12 9 <| cl_ (k_Told_mapAt r12 v1 M) fun c16 M =>
    j23 c16 M
  )
def k_X_shapeOf (a0 : Nat) (v1 : Int) (M : mm_T) : Option ((Nat ⊕ Nat) × mm_T) :=
  gR_ M a0 10 1 fun r2 =>
  gI_ M r2 9 7 fun x5 =>
  jn_ (fun (sa0_23 : Nat) (M : mm_T) =>
    lt_ sa0_23 fun a2_23 =>
    nn_ a2_23 (
      th_ M 3
    ) (
      some (.inr a2_23, M)
    )
  ) fun j23 =>
  if x5 ≤ v1 then (
    j23 0 M
  ) else (
    gR_ M a0 10 1 fun r12 =>
    ob_ M r12 9 <| cl_ (k_Told_shapeAt r12 v1 M) fun c16 M =>
    j23 c16 M
  )
def k_Line_twiceAt (a0 : Nat) (v1 : Int) (M : mm_T) : Option (Int × mm_T) :=
  jn_ (fun (M : mm_T) =>
    some (0, M)
  ) fun j30 =>
  if v1 < 0 then (
    j30 M
  ) else (
    gI_ M a0 1 4 fun x6 =>
    if x6 ≤ v1 then (
      j30 M
    ) else (
      gR_ M a0 1 2 fun r14 =>
      al_ M r14 0 fun x17 =>
      if x17 ≤ v1 then (
        j30 M
      ) else (
        gR_ M a0 1 2 fun r22 =>
        aI_ M r22 0 v1 fun x26 =>
        some (x26, M)
      )
    )
  )
def k_Shape_isShort (a0 : Nat) (v1 : Int) (M : mm_T) : Option (Int × mm_T) :=
  jn_ (fun (M : mm_T) =>
    zz_ 0 (some (0, M))
  ) fun j19 =>
  if v1 < 0 then (
    j19 M
  ) else (
    gI_ M a0 6 3 fun x5 =>
    if and_ (shr_ x5 v1) 1 = 0 then (
      j19 M
    ) else (
      zz_ 1 (some (1, M))
    )
  )
def k_Sizes_set (a0 : Nat) (v1 : Int) (v2 : Int) (v3 : Int) (M : mm_T) : Option (Unit × mm_T) :=
  if v1 < 0 then (
    some ((), M)
  ) else (
    if 3 ≤ v1 then (
      some ((), M)
    ) else (
      gR_ M a0 7 0 fun r10 =>
      sI_ M r10 v1 v2 fun M =>
      gR_ M a0 7 1 fun r17 =>
      sI_ M r17 v1 v3 fun M =>
      some ((), M)
    )
  )
def lp_Sizes_clear_2 (kx20 : mm_T → Option (Unit × mm_T)) (a0 : Nat) : Nat → Int → mm_T → Option (Unit × mm_T)
  | 0, _, _ => none
  | f + 1, v1, M =>
    if 3 ≤ v1 then (
      kx20 M
    ) else (
      ob_ M a0 7 <| cl_ (k_Sizes_set a0 v1 0 (-1) M) fun _ M =>
      ck_ (v1 + 1) fun v1_14 =>
      lp_Sizes_clear_2 kx20 a0 f v1_14 M
    )

def k_Sizes_clear (a0 : Nat) (M : mm_T) : Option (Unit × mm_T) :=
  lt_ (0 : Int) fun v1_1 =>
  lp_Sizes_clear_2
    (fun (M : mm_T) =>
      some ((), M)
    )
    a0 FU_ v1_1 M
def k_Line_alike (a0 : Nat) (v1 : Int) (v2 : Int) (M : mm_T) : Option (Int × mm_T) :=
  jn_ (fun (s0_10 : Int) (M : mm_T) =>
    lt_ s0_10 fun v3_10 =>
    jn_ (fun (s0_21 : Int) (M : mm_T) =>
      lt_ s0_21 fun v4_21 =>
      if v4_21 < 0 then (
        some (0, M)
      ) else (
        if v3_10 ≤ v4_21 then (
          some (0, M)
        ) else (
          gI_ M a0 1 4 fun x36 =>
          if x36 ≤ v3_10 then (
            some (0, M)
          ) else (
            if v3_10 < 64 then (
              gR_ M a0 1 1 fun r51 =>
              aR_ M r51 4 v3_10 fun r55 =>
              aI_ M r55 0 v4_21 fun x58 =>
              some (x58, M)
            ) else (
              some (0, M)
            )
          )
        )
      )
    ) fun j21 =>
    if v1 ≤ v2 then (
      j21 v1 M
    ) else (
      j21 v2 M
    )
  ) fun j10 =>
  if v1 ≤ v2 then (
    j10 v2 M
  ) else (
    j10 v1 M
  )
def k_Sizes_edge (a0 : Nat) (v1 : Int) (M : mm_T) : Option (Int × mm_T) :=
  jn_ (fun (M : mm_T) =>
    some ((-1), M)
  ) fun j22 =>
  if v1 < 0 then (
    j22 M
  ) else (
    gR_ M a0 7 1 fun r6 =>
    al_ M r6 0 fun x9 =>
    if x9 ≤ v1 then (
      j22 M
    ) else (
      gR_ M a0 7 1 fun r14 =>
      aI_ M r14 0 v1 fun x18 =>
      some (x18, M)
    )
  )
def k_Sizes_of (a0 : Nat) (v1 : Int) (M : mm_T) : Option (Int × mm_T) :=
  jn_ (fun (M : mm_T) =>
    some (0, M)
  ) fun j22 =>
  if v1 < 0 then (
    j22 M
  ) else (
    gR_ M a0 7 0 fun r6 =>
    al_ M r6 0 fun x9 =>
    if x9 ≤ v1 then (
      j22 M
    ) else (
      gR_ M a0 7 0 fun r14 =>
      aI_ M r14 0 v1 fun x18 =>
      some (x18, M)
    )
  )
def k_Sizes_isAgainAt (a0 : Nat) (a1 : Nat) (v2 : Int) (v3 : Int) (v4 : Int) (M : mm_T) : Option (Int × mm_T) :=
  ob_ M a0 7 <| cl_ (k_Sizes_of a0 v2 M) fun c2 M =>
  lt_ c2 fun v5_5 =>
  jn_ (fun (s0_20 : Int) (M : mm_T) =>
    lt_ s0_20 fun v6_20 =>
    ob_ M a0 7 <| cl_ (k_Sizes_edge a0 v2 M) fun c25 M =>
    ck_ (c25 + v6_20) fun x30 =>
    ck_ (v3 + v6_20) fun x34 =>
    ob_ M a1 1 <| cl_ (k_Line_alike a1 x30 x34 M) fun c35 M =>
    if c35 < v5_5 then (
      zz_ 0 (some (0, M))
    ) else (
      zz_ 1 (some (1, M))
    )
  ) fun j20 =>
  if v4 ≤ 0 then (
    j20 0 M
  ) else (
    ck_ (v5_5 - 1) fun x15 =>
    j20 x15 M
  )
def lp_Sizes_lays_131 (kx199 : Int → Int → mm_T → Option (Int × mm_T)) (a1 : Nat) (a2 : Nat) (v5 : Int) (v6 : Int) : Nat → Int → Int → Int → mm_T → Option (Int × mm_T)
  | 0, _, _, _, _ => none
  | f + 1, v8, v9, v10, M =>
    gI_ M a1 6 2 fun x134 =>
    if x134 ≤ v10 then (
      kx199 v8 v9 M
    ) else (
      jn_ (fun (sa0_160 : Nat) (s1_160 : Int) (M : mm_T) =>
        ob_ M sa0_160 6 <| cl_ (k_Shape_at sa0_160 s1_160 M) fun c160 M =>
        lt_ c160 fun v11_163 =>
        jn_ (fun (v8_193 : Int) (v9_193 : Int) (M : mm_T) =>
          ck_ (v10 + 1) fun v10_193 =>
          lp_Sizes_lays_131 kx199 a1 a2 v5 v6 f v8_193 v9_193 v10_193 M
        ) fun j193 =>
        if ¬ v11_163 = v6 then (
          ob_ M a2 7 <| cl_ (k_Sizes_of a2 v11_163 M) fun c184 M =>
          ck_ (v8 - (mx_ 1 c184)) fun x190 =>
          lt_ x190 fun v8_191 =>
          j193 v8_191 v9 M
        ) else (
          ck_ (v9 + 1) fun v9_172 =>
          j193 v8 v9_172 M
        )
      ) fun j160 =>
      if v5 ≤ 0 then (
        gI_ M a1 6 2 fun x152 =>
        ck_ (x152 - 1) fun x156 =>
        ck_ (x156 - v10) fun x159 =>
        j160 a1 x159 M
      ) else (
        j160 a1 v10 M
      )
    )

def lp_Sizes_lays_249 (kx306 : mm_T → Option (Int × mm_T)) (rec : Nat → Nat → Nat → Int → Int → Int → mm_T → Option (Int × mm_T)) (a0 : Nat) (a1 : Nat) (a2 : Nat) (v3 : Int) (v4 : Int) (v5 : Int) (v6 : Int) (v8 : Int) (v9 : Int) (v10 : Int) : Nat → Int → mm_T → Option (Int × mm_T)
  | 0, _, _ => none
  | f + 1, v11, M =>
    ck_ (v11 * v9) fun x253 =>
    if v8 < x253 then (
      kx306 M
    ) else (
      if v10 < v11 then (
        kx306 M
      ) else (
        ob_ M a2 7 <| cl_ (k_Sizes_set a2 v6 v11 v4 M) fun _ M =>
        ck_ (v3 + 1) fun x281 =>
        ck_ (v5 * v11) fun x288 =>
        ck_ (v4 + x288) fun x289 =>
        cl_ (rec a0 a1 a2 x281 x289 v5 M) fun c292 M =>
        if c292 = 0 then (
          ck_ (v11 + 1) fun v11_300 =>
          lp_Sizes_lays_249 kx306 rec a0 a1 a2 v3 v4 v5 v6 v8 v9 v10 f v11_300 M
        ) else (
          zz_ 1 (some (1, M))
        )
      )
    )

def k_Sizes_lays : Nat → Nat → Nat → Nat → Int → Int → Int → mm_T → Option (Int × mm_T)
  | 0, _, _, _, _, _, _, _ => none
  | d + 1, a0, a1, a2, v3, v4, v5, M =>
    gI_ M a1 6 2 fun x2 =>
    if x2 ≤ v3 then (
      zz_ 1 (some (1, M))
    ) else (
      if v3 < 6 then (
        jn_ (fun (M : mm_T) =>
          jn_ (fun (sa0_42 : Nat) (s1_42 : Int) (M : mm_T) =>
            ob_ M sa0_42 6 <| cl_ (k_Shape_at sa0_42 s1_42 M) fun c42 M =>
            lt_ c42 fun v6_45 =>
            ob_ M a2 7 <| cl_ (k_Sizes_of a2 v6_45 M) fun c50 M =>
            lt_ c50 fun v7_53 =>
            if v7_53 ≤ 0 then (
              jn_ (fun (s0_121 : Int) (M : mm_T) =>
                lt_ s0_121 fun v8_121 =>
                lt_ (1 : Int) fun v9_124 =>
                ck_ (v3 + 1) fun x128 =>
                lt_ x128 fun v10_129 =>
                lp_Sizes_lays_131
                  (fun (v8_199 : Int) (v9_199 : Int) (M : mm_T) =>
                    lt_ v8_199 fun v10_201 =>
                    jn_ (fun (v10_246 : Int) (M : mm_T) =>
                      lt_ (1 : Int) fun v11_247 =>
                      lp_Sizes_lays_249
                        (fun (M : mm_T) =>
                          ob_ M a2 7 <| cl_ (k_Sizes_set a2 v6_45 0 (-1) M) fun _ M =>
                          zz_ 0 (some (0, M))
                        )
                        (k_Sizes_lays d) a0 a1 a2 v3 v4 v5 v6_45 v8_199 v9_199 v10_246 FU_ v11_247 M
                    ) fun j246 =>
                    if 0 ≤ v5 then (
                      j246 v10_201 M
                    ) else (
                      jn_ (fun (s0_244 : Int) (M : mm_T) =>
                        lt_ s0_244 fun v10_244 =>
                        j246 v10_244 M
                      ) fun j244 =>
                      if v9_199 ≤ 1 then (
                        gI_ M a1 6 2 fun x225 =>
                        ck_ (x225 - 1) fun x229 =>
                        ck_ (x229 - v3) fun x231 =>
                        ob_ M a1 6 <| cl_ (k_Shape_isShort a1 x231 M) fun c232 M =>
                        if c232 = 0 then (
                          j244 v8_199 M
                        ) else (
                          j244 1 M
                        )
                      ) else (
                        ob_ M a0 1 <| cl_ (k_Line_twiceAt a0 v4 M) fun c217 M =>
                        j244 c217 M
                      )
                    )
                  )
                  a1 a2 v5 v6_45 FU_ v8_121 v9_124 v10_129 M
              ) fun j121 =>
              if v5 ≤ 0 then (
                ck_ (v4 + 1) fun x120 =>
                j121 x120 M
              ) else (
                gI_ M a0 1 4 fun x108 =>
                ck_ (x108 - v4) fun x113 =>
                j121 x113 M
              )
            ) else (
              ob_ M a2 7 <| cl_ (k_Sizes_isAgainAt a2 a0 v6_45 v4 v5 M) fun c68 M =>
              jn_ (fun (M : mm_T) =>
                zz_ 0 (some (0, M))
              ) fun j100 =>
              if c68 = 0 then (
                j100 M
              ) else (
                ck_ (v3 + 1) fun x79 =>
                ck_ (v5 * v7_53) fun x86 =>
                ck_ (v4 + x86) fun x87 =>
                cl_ (k_Sizes_lays d a0 a1 a2 x79 x87 v5 M) fun c90 M =>
                if c90 = 0 then (
                  j100 M
                ) else (
                  zz_ 1 (some (1, M))
                )
              )
            )
          ) fun j42 =>
          if v5 ≤ 0 then (
            gI_ M a1 6 2 fun x35 =>
            ck_ (x35 - 1) fun x39 =>
            ck_ (x39 - v3) fun x41 =>
            j42 a1 x41 M
          ) else (
            j42 a1 v3 M
          )
        ) fun j24 =>
        if ¬ v3 = 0 then (
          j24 M
        ) else (
          ob_ M a2 7 <| cl_ (k_Sizes_clear a2 M) fun _ M =>
          j24 M
        )
      ) else (
        zz_ 1 (some (1, M))
      )
    )
def k_Told_isBeyond (a0 : Nat) (v1 : Int) (v2 : Int) (M : mm_T) : Option (Int × mm_T) :=
  gI_ M a0 9 5 fun x2 =>
  ck_ (v1 * x2) fun x5 =>
  gI_ M a0 9 4 fun x7 =>
  ck_ (x7 * v2) fun x11 =>
  ck_ (x5 - x11) fun x12 =>
  lt_ x12 fun v3_13 =>
  gI_ M a0 9 3 fun x15 =>
  jn_ (fun (M : mm_T) =>
    zz_ 1 (some (1, M))
  ) fun j38 =>
  jn_ (fun (M : mm_T) =>
    gI_ M a0 9 3 fun x27 =>
    jn_ (fun (M : mm_T) =>
      zz_ 0 (some (0, M))
    ) fun j42 =>
    if ¬ x27 = 2 then (
      j42 M
    ) else (
      if v3_13 ≤ 0 then (
        j42 M
      ) else (
        j38 M
      )
    )
  ) fun j26 =>
  if ¬ x15 = 1 then (
    j26 M
  ) else (
    if 0 ≤ v3_13 then (
      j38 M
    ) else (
      j26 M
    )
  )
def lp_Line_isBadAt_33 (kx74 : mm_T → Option (Int × mm_T)) (a1 : Nat) (v2 : Int) (a3 : Nat) : Nat → Int → mm_T → Option (Int × mm_T)
  | 0, _, _ => none
  | f + 1, v4, M =>
    if v2 < v4 then (
      kx74 M
    ) else (
      ck_ (v2 - v4) fun x43 =>
      aI_ M a3 0 x43 fun x44 =>
      lt_ x44 fun v5_45 =>
      jn_ (fun (M : mm_T) =>
        ck_ (v4 + 1) fun v4_68 =>
        lp_Line_isBadAt_33 kx74 a1 v2 a3 f v4_68 M
      ) fun j68 =>
      if v5_45 ≤ 0 then (
        j68 M
      ) else (
        ck_ (v5_45 + v4) fun x57 =>
        ob_ M a1 9 <| cl_ (k_Told_isBeyond a1 x57 v4 M) fun c60 M =>
        if c60 = 0 then (
          j68 M
        ) else (
          zz_ 1 (some (1, M))
        )
      )
    )

def lp_Line_isBadAt_77 (kx131 : mm_T → Option (Int × mm_T)) (a0 : Nat) (a1 : Nat) (v2 : Int) : Nat → Int → mm_T → Option (Int × mm_T)
  | 0, _, _ => none
  | f + 1, v4, M =>
    gI_ M a1 9 7 fun x80 =>
    if x80 ≤ v4 then (
      kx131 M
    ) else (
      ob_ M a1 9 <| cl_ (k_Told_shapeAt a1 v4 M) fun c89 M =>
      lt_ c89 fun a5_92 =>
      jn_ (fun (M : mm_T) =>
        ck_ (v4 + 1) fun v4_125 =>
        lp_Line_isBadAt_77 kx131 a0 a1 v2 f v4_125 M
      ) fun j125 =>
      nn_ a5_92 (
        j125 M
      ) (
        gI_ M a5_92 6 4 fun x101 =>
        if x101 = 0 then (
          j125 M
        ) else (
          gR_ M a0 1 3 fun r111 =>
          cl_ (k_Sizes_lays 10 a0 a5_92 r111 0 v2 (-1) M) fun c117 M =>
          if c117 = 0 then (
            j125 M
          ) else (
            zz_ 1 (some (1, M))
          )
        )
      )
    )

def k_Line_isBadAt (a0 : Nat) (a1 : Nat) (v2 : Int) (M : mm_T) : Option (Int × mm_T) :=
  ob_ M a1 9 <| cl_ (k_Told_isBeyond a1 1 1 M) fun c3 M =>
  if c3 = 0 then (
    if v2 < 0 then (
      zz_ 0 (some (0, M))
    ) else (
      if v2 < 64 then (
        gR_ M a0 1 1 fun r24 =>
        aR_ M r24 4 v2 fun r28 =>
        lt_ r28 fun a3_29 =>
        lt_ (1 : Int) fun v4_31 =>
        lp_Line_isBadAt_33
          (fun (M : mm_T) =>
            lt_ (0 : Int) fun v4_75 =>
            lp_Line_isBadAt_77
              (fun (M : mm_T) =>
                zz_ 0 (some (0, M))
              )
              a0 a1 v2 FU_ v4_75 M
          )
          a1 v2 a3_29 FU_ v4_31 M
      ) else (
        zz_ 0 (some (0, M))
      )
    )
  ) else (
    zz_ 1 (some (1, M))
  )
def lp_Line_firstBad_2 (kx27 : mm_T → Option (Int × mm_T)) (a0 : Nat) (a1 : Nat) : Nat → Int → mm_T → Option (Int × mm_T)
  | 0, _, _ => none
  | f + 1, v2, M =>
    gI_ M a0 1 4 fun x4 =>
    if x4 ≤ v2 then (
      kx27 M
    ) else (
      ob_ M a0 1 <| cl_ (k_Line_isBadAt a0 a1 v2 M) fun c13 M =>
      if c13 = 0 then (
        ck_ (v2 + 1) fun v2_21 =>
        lp_Line_firstBad_2 kx27 a0 a1 f v2_21 M
      ) else (
        some (v2, M)
      )
    )

def k_Line_firstBad (a0 : Nat) (a1 : Nat) (M : mm_T) : Option (Int × mm_T) :=
  lt_ (0 : Int) fun v2_1 =>
  lp_Line_firstBad_2
    (fun (M : mm_T) =>
      some ((-1), M)
    )
    a0 a1 FU_ v2_1 M
def k_X_free (a0 : Nat) (M : mm_T) : Option (Int × mm_T) :=
  gR_ M a0 10 3 fun r1 =>
  gR_ M a0 10 1 fun r5 =>
  ob_ M r1 1 <| cl_ (k_Line_firstBad r1 r5 M) fun c8 M =>
  if ¬ c8 = (-1) then (
    zz_ 0 (some (0, M))
  ) else (
    zz_ 1 (some (1, M))
  )
def k_X_ends (a0 : Nat) (M : mm_T) : Option (Int × mm_T) :=
  gR_ M a0 10 3 fun r1 =>
  gR_ M a0 10 1 fun r5 =>
  ob_ M r1 1 <| cl_ (k_Line_firstBad r1 r5 M) fun c8 M =>
  some (c8, M)
def lp_X_greatest_31 (kx146 : Int → Int → Int → mm_T → Option ((Nat ⊕ Int) × mm_T)) (a0 : Nat) (v5 : Int) : Nat → Int → Int → Int → Int → mm_T → Option ((Nat ⊕ Int) × mm_T)
  | 0, _, _, _, _, _ => none
  | f + 1, v2, v3, v4, v6, M =>
    ck_ (v5 + 1) fun x36 =>
    if x36 < v6 then (
      kx146 v2 v3 v4 M
    ) else (
      gR_ M a0 10 3 fun r43 =>
      ck_ (v5 - v6) fun x52 =>
      ob_ M r43 1 <| cl_ (k_Line_alike r43 v5 x52 M) fun c53 M =>
      ck_ (v6 + c53) fun x56 =>
      lt_ x56 fun v7_57 =>
      ck_ (v5 - v7_57) fun x63 =>
      ck_ (x63 + 1) fun x65 =>
      lt_ x65 fun v8_66 =>
      jn_ (fun (s0_86 : Int) (M : mm_T) =>
        lt_ s0_86 fun v9_86 =>
        jn_ (fun (s0_113 : Int) (M : mm_T) =>
          lt_ s0_113 fun v10_113 =>
          jn_ (fun (v2_140 : Int) (v3_140 : Int) (v4_140 : Int) (M : mm_T) =>
            ck_ (v6 + 1) fun v6_140 =>
            lp_X_greatest_31 kx146 a0 v5 f v2_140 v3_140 v4_140 v6_140 M
          ) fun j140 =>
          jn_ (fun (M : mm_T) =>
            lt_ v7_57 fun v2_132 =>
            lt_ v6 fun v3_135 =>
            lt_ v8_66 fun v4_138 =>
            j140 v2_132 v3_135 v4_138 M
          ) fun j130 =>
          if 0 < v9_86 then (
            j130 M
          ) else (
            if ¬ v9_86 = 0 then (
              j140 v2 v3 v4 M
            ) else (
              if v10_113 = 0 then (
                j140 v2 v3 v4 M
              ) else (
                j130 M
              )
            )
          )
        ) fun j113 =>
        jn_ (fun (M : mm_T) =>
          j113 1 M
        ) fun j108 =>
        if v8_66 < v4 then (
          j108 M
        ) else (
          jn_ (fun (M : mm_T) =>
            j113 0 M
          ) fun j112 =>
          if ¬ v8_66 = v4 then (
            j112 M
          ) else (
            if v7_57 ≤ v2 then (
              j112 M
            ) else (
              j108 M
            )
          )
        )
      ) fun j86 =>
      if ¬ v2 = (-1) then (
        ck_ (v7_57 * v3) fun x80 =>
        ck_ (v2 * v6) fun x84 =>
        ck_ (x80 - x84) fun x85 =>
        j86 x85 M
      ) else (
        j86 1 M
      )
    )

def lp_X_greatest_16 (kx152 : Int → Int → Int → mm_T → Option ((Nat ⊕ Int) × mm_T)) (a0 : Nat) : Nat → Int → Int → Int → Int → mm_T → Option ((Nat ⊕ Int) × mm_T)
  | 0, _, _, _, _, _ => none
  | f + 1, v2, v3, v4, v5, M =>
    gR_ M a0 10 3 fun r19 =>
    gI_ M r19 1 4 fun x22 =>
    if x22 ≤ v5 then (
      kx152 v2 v3 v4 M
    ) else (
      lt_ (1 : Int) fun v6_29 =>
      lp_X_greatest_31
        (fun (v2_146 : Int) (v3_146 : Int) (v4_146 : Int) (M : mm_T) =>
          ck_ (v5 + 1) fun v5_146 =>
          lp_X_greatest_16 kx152 a0 f v2_146 v3_146 v4_146 v5_146 M
        )
        a0 v5 FU_ v2 v3 v4 v6_29 M
    )

def k_X_greatest (a0 : Nat) (v1 : Int) (M : mm_T) : Option ((Nat ⊕ Int) × mm_T) :=
  ob_ M a0 10 <| cx_ (k_X_checkWhat a0 v1 2 M) (fun E M => some (.inl E, M)) fun _ M =>
  lt_ (-1 : Int) fun v2_7 =>
  lt_ (-1 : Int) fun v3_9 =>
  lt_ (-1 : Int) fun v4_11 =>
  lt_ (0 : Int) fun v5_14 =>
  lp_X_greatest_16
    (fun (v2_152 : Int) (v3_152 : Int) (v4_152 : Int) (M : mm_T) =>
      if ¬ v1 = 0 then (
        if ¬ v1 = 1 then (
          some (.inr v4_152, M)
        ) else (
          some (.inr v3_152, M)
        )
      ) else (
        some (.inr v2_152, M)
      )
    )
    a0 FU_ v2_7 v3_9 v4_11 v5_14 M
def lp_Line_leastPeriod_9 (kx37 : Int → mm_T → Option (Int × mm_T)) (a0 : Nat) (v2 : Int) (v3 : Int) : Nat → Int → mm_T → Option (Int × mm_T)
  | 0, _, _ => none
  | f + 1, v4, M =>
    if v2 ≤ v4 then (
      kx37 v4 M
    ) else (
      ck_ (v3 - v4) fun x20 =>
      ob_ M a0 1 <| cl_ (k_Line_alike a0 v3 x20 M) fun c21 M =>
      ck_ (v2 - v4) fun x27 =>
      if x27 ≤ c21 then (
        kx37 v4 M
      ) else (
        ck_ (v4 + 1) fun v4_31 =>
        lp_Line_leastPeriod_9 kx37 a0 v2 v3 f v4_31 M
      )
    )

def k_Line_leastPeriod (a0 : Nat) (v1 : Int) (v2 : Int) (M : mm_T) : Option (Int × mm_T) :=
  ck_ (v1 + v2) fun x2 =>
  ck_ (x2 - 1) fun x4 =>
  lt_ x4 fun v3_5 =>
  lt_ (1 : Int) fun v4_7 =>
  lp_Line_leastPeriod_9
    (fun (v4_37 : Int) (M : mm_T) =>
      some (v4_37, M)
    )
    a0 v2 v3_5 FU_ v4_7 M
def k_X_period (a0 : Nat) (M : mm_T) : Option (Int × mm_T) :=
  gR_ M a0 10 3 fun r1 =>
  gI_ M r1 1 4 fun x4 =>
  if ¬ x4 = 0 then (
    gR_ M a0 10 3 fun r15 =>
    gR_ M a0 10 3 fun r20 =>
    gI_ M r20 1 4 fun x23 =>
    ob_ M r15 1 <| cl_ (k_Line_leastPeriod r15 0 x23 M) fun c26 M =>
    some (c26, M)
  ) else (
    some ((-1), M)
  )
def lp_X_border_13 (kx61 : mm_T → Option (Int × mm_T)) (a0 : Nat) (v1 : Int) (v2 : Int) : Nat → Int → Int → mm_T → Option (Int × mm_T)
  | 0, _, _, _ => none
  | f + 1, v3, v4, M =>
    if v2 ≤ v4 then (
      kx61 M
    ) else (
      gR_ M a0 10 3 fun r20 =>
      ck_ (v2 - 1) fun x25 =>
      ck_ (v2 - 1) fun x28 =>
      ck_ (x28 - v4) fun x31 =>
      ob_ M r20 1 <| cl_ (k_Line_alike r20 x25 x31 M) fun c32 M =>
      ck_ (v2 - v4) fun x38 =>
      jn_ (fun (v3_55 : Int) (M : mm_T) =>
        ck_ (v4 + 1) fun v4_55 =>
        lp_X_border_13 kx61 a0 v1 v2 f v3_55 v4_55 M
      ) fun j55 =>
      if c32 < x38 then (
        j55 v3 M
      ) else (
        if ¬ v3 = v1 then (
          ck_ (v3 + 1) fun v3_52 =>
          j55 v3_52 M
        ) else (
          ck_ (v2 - v4) fun x50 =>
          some (x50, M)
        )
      )
    )

def k_X_border (a0 : Nat) (v1 : Int) (M : mm_T) : Option (Int × mm_T) :=
  gR_ M a0 10 3 fun r1 =>
  gI_ M r1 1 4 fun x4 =>
  lt_ x4 fun v2_7 =>
  lt_ (0 : Int) fun v3_9 =>
  lt_ (1 : Int) fun v4_11 =>
  lp_X_border_13
    (fun (M : mm_T) =>
      some ((-1), M)
    )
    a0 v1 v2_7 FU_ v3_9 v4_11 M
def lp_X_runSize_33 (kx77 : Int → mm_T → Option (Int × mm_T)) (a0 : Nat) (v1 : Int) (v2 : Int) : Nat → Int → mm_T → Option (Int × mm_T)
  | 0, _, _ => none
  | f + 1, v3, M =>
    ck_ (v1 + v3) fun x35 =>
    gR_ M a0 10 3 fun r37 =>
    gI_ M r37 1 4 fun x40 =>
    if x40 ≤ x35 then (
      kx77 v3 M
    ) else (
      gR_ M a0 10 3 fun r47 =>
      ck_ (v1 + v3) fun x52 =>
      ob_ M r47 1 <| cl_ (k_Line_at r47 x52 M) fun c53 M =>
      gR_ M a0 10 3 fun r57 =>
      ck_ (v1 + v3) fun x62 =>
      ck_ (x62 - v2) fun x64 =>
      ob_ M r57 1 <| cl_ (k_Line_at r57 x64 M) fun c65 M =>
      if ¬ c53 = c65 then (
        kx77 v3 M
      ) else (
        ck_ (v3 + 1) fun v3_71 =>
        lp_X_runSize_33 kx77 a0 v1 v2 f v3_71 M
      )
    )

def k_X_runSize (a0 : Nat) (v1 : Int) (v2 : Int) (M : mm_T) : Option (Int × mm_T) :=
  jn_ (fun (M : mm_T) =>
    lt_ v2 fun v3_32 =>
    lp_X_runSize_33
      (fun (v3_77 : Int) (M : mm_T) =>
        ck_ (2 * v2) fun x80 =>
        jn_ (fun (M : mm_T) =>
          some (0, M)
        ) fun j101 =>
        if v3_77 < x80 then (
          j101 M
        ) else (
          gR_ M a0 10 3 fun r85 =>
          ob_ M r85 1 <| cl_ (k_Line_leastPeriod r85 v1 v3_77 M) fun c90 M =>
          if ¬ c90 = v2 then (
            j101 M
          ) else (
            some (v3_77, M)
          )
        )
      )
      a0 v1 v2 FU_ v3_32 M
  ) fun j31 =>
  if v1 ≤ 0 then (
    j31 M
  ) else (
    gR_ M a0 10 3 fun r5 =>
    ck_ (v1 - 1) fun x10 =>
    ob_ M r5 1 <| cl_ (k_Line_at r5 x10 M) fun c11 M =>
    gR_ M a0 10 3 fun r15 =>
    ck_ (v1 - 1) fun x20 =>
    ck_ (x20 + v2) fun x22 =>
    ob_ M r15 1 <| cl_ (k_Line_at r15 x22 M) fun c23 M =>
    if ¬ c11 = c23 then (
      j31 M
    ) else (
      some (0, M)
    )
  )
def lp_X_run_26 (kx97 : Int → mm_T → Option ((Nat ⊕ Int) × mm_T)) (a0 : Nat) (v1 : Int) (v2 : Int) (v4 : Int) : Nat → Int → Int → mm_T → Option ((Nat ⊕ Int) × mm_T)
  | 0, _, _, _ => none
  | f + 1, v3, v5, M =>
    ck_ (2 * v5) fun x31 =>
    ck_ (v4 + x31) fun x32 =>
    gR_ M a0 10 3 fun r34 =>
    gI_ M r34 1 4 fun x37 =>
    if x37 < x32 then (
      kx97 v3 M
    ) else (
      ob_ M a0 10 <| cl_ (k_X_runSize a0 v4 v5 M) fun c48 M =>
      lt_ c48 fun v6_51 =>
      jn_ (fun (v3_91 : Int) (M : mm_T) =>
        ck_ (v5 + 1) fun v5_91 =>
        lp_X_run_26 kx97 a0 v1 v2 v4 f v3_91 v5_91 M
      ) fun j91 =>
      if ¬ v6_51 = 0 then (
        if ¬ v3 = v1 then (
          ck_ (v3 + 1) fun v3_88 =>
          j91 v3_88 M
        ) else (
          if ¬ v2 = 0 then (
            if ¬ v2 = 1 then (
              some (.inr v5, M)
            ) else (
              some (.inr v6_51, M)
            )
          ) else (
            some (.inr v4, M)
          )
        )
      ) else (
        j91 v3 M
      )
    )

def lp_X_run_11 (kx103 : Int → mm_T → Option ((Nat ⊕ Int) × mm_T)) (a0 : Nat) (v1 : Int) (v2 : Int) : Nat → Int → Int → mm_T → Option ((Nat ⊕ Int) × mm_T)
  | 0, _, _, _ => none
  | f + 1, v3, v4, M =>
    gR_ M a0 10 3 fun r14 =>
    gI_ M r14 1 4 fun x17 =>
    if x17 ≤ v4 then (
      kx103 v3 M
    ) else (
      lt_ (1 : Int) fun v5_24 =>
      lp_X_run_26
        (fun (v3_97 : Int) (M : mm_T) =>
          ck_ (v4 + 1) fun v4_97 =>
          lp_X_run_11 kx103 a0 v1 v2 f v3_97 v4_97 M
        )
        a0 v1 v2 v4 FU_ v3 v5_24 M
    )

def k_X_run (a0 : Nat) (v1 : Int) (v2 : Int) (M : mm_T) : Option ((Nat ⊕ Int) × mm_T) :=
  ob_ M a0 10 <| cx_ (k_X_checkWhat a0 v2 2 M) (fun E M => some (.inl E, M)) fun _ M =>
  lt_ (0 : Int) fun v3_7 =>
  lt_ (0 : Int) fun v4_9 =>
  lp_X_run_11
    (fun (v3_103 : Int) (M : mm_T) =>
      if ¬ v1 = (-1) then (
        some (.inr (-1), M)
      ) else (
        some (.inr v3_103, M)
      )
    )
    a0 v1 v2 FU_ v3_7 v4_9 M
def lp_X_factors_33 (kx71 : Int → mm_T → Option ((Nat ⊕ Int) × mm_T)) (a0 : Nat) (v1 : Int) (v3 : Int) : Nat → Int → Int → mm_T → Option ((Nat ⊕ Int) × mm_T)
  | 0, _, _, _ => none
  | f + 1, v4, v5, M =>
    if v3 ≤ v5 then (
      kx71 v4 M
    ) else (
      if ¬ v4 = 0 then (
        kx71 v4 M
      ) else (
        gR_ M a0 10 3 fun r45 =>
        ob_ M r45 1 <| cl_ (k_Line_alike r45 v3 v5 M) fun c51 M =>
        jn_ (fun (s0_63 : Int) (M : mm_T) =>
          lt_ s0_63 fun v4_63 =>
          ck_ (v5 + 1) fun v5_65 =>
          lp_X_factors_33 kx71 a0 v1 v3 f v4_63 v5_65 M
        ) fun j63 =>
        if c51 < v1 then (
          j63 0 M
        ) else (
          j63 1 M
        )
      )
    )

def lp_X_factors_14 (kx85 : Int → mm_T → Option ((Nat ⊕ Int) × mm_T)) (a0 : Nat) (v1 : Int) : Nat → Int → Int → mm_T → Option ((Nat ⊕ Int) × mm_T)
  | 0, _, _, _ => none
  | f + 1, v2, v3, M =>
    gR_ M a0 10 3 fun r16 =>
    gI_ M r16 1 4 fun x19 =>
    if x19 ≤ v3 then (
      kx85 v2 M
    ) else (
      lt_ (0 : Int) fun v4_26 =>
      ck_ (v1 - 1) fun x30 =>
      lt_ x30 fun v5_31 =>
      lp_X_factors_33
        (fun (v4_71 : Int) (M : mm_T) =>
          jn_ (fun (v2_79 : Int) (M : mm_T) =>
            ck_ (v3 + 1) fun v3_79 =>
            lp_X_factors_14 kx85 a0 v1 f v2_79 v3_79 M
          ) fun j79 =>
          if ¬ v4_71 = 0 then (
            j79 v2 M
          ) else (
            ck_ (v2 + 1) fun v2_76 =>
            j79 v2_76 M
          )
        )
        a0 v1 v3 FU_ v4_26 v5_31 M
    )

def k_X_factors (a0 : Nat) (v1 : Int) (M : mm_T) : Option ((Nat ⊕ Int) × mm_T) :=
  ob_ M a0 10 <| cx_ (k_X_checkRange a0 v1 1 64 M) (fun E M => some (.inl E, M)) fun _ M =>
  lt_ (0 : Int) fun v2_9 =>
  ck_ (v1 - 1) fun x12 =>
  lt_ x12 fun v3_13 =>
  lp_X_factors_14
    (fun (v2_85 : Int) (M : mm_T) =>
      some (.inr v2_85, M)
    )
    a0 v1 FU_ v2_9 v3_13 M
def lp_X_mirror_30 (kx75 : Int → Int → mm_T → Option (Int × mm_T)) (a0 : Nat) : Nat → Int → Int → mm_T → Option (Int × mm_T)
  | 0, _, _, _ => none
  | f + 1, v3, v4, M =>
    if v3 < 0 then (
      kx75 v3 v4 M
    ) else (
      gR_ M a0 10 3 fun r37 =>
      gI_ M r37 1 4 fun x40 =>
      if x40 ≤ v4 then (
        kx75 v3 v4 M
      ) else (
        gR_ M a0 10 3 fun r47 =>
        ob_ M r47 1 <| cl_ (k_Line_at r47 v3 M) fun c51 M =>
        gR_ M a0 10 3 fun r55 =>
        ob_ M r55 1 <| cl_ (k_Line_at r55 v4 M) fun c60 M =>
        if ¬ c51 = c60 then (
          kx75 v3 v4 M
        ) else (
          ck_ (v3 + (-1)) fun v3_66 =>
          ck_ (v4 + 1) fun v4_69 =>
          lp_X_mirror_30 kx75 a0 f v3_66 v4_69 M
        )
      )
    )

def lp_X_mirror_4 (kx92 : Int → mm_T → Option (Int × mm_T)) (a0 : Nat) : Nat → Int → Int → mm_T → Option (Int × mm_T)
  | 0, _, _, _ => none
  | f + 1, v1, v2, M =>
    gR_ M a0 10 3 fun r7 =>
    gI_ M r7 1 4 fun x10 =>
    ck_ (2 * x10) fun x13 =>
    ck_ (x13 - 1) fun x15 =>
    if x15 ≤ v2 then (
      kx92 v1 M
    ) else (
      dv_ v2 2 fun x21 =>
      lt_ x21 fun v3_22 =>
      rm_ v2 2 fun x26 =>
      ck_ (v3_22 + x26) fun x27 =>
      lt_ x27 fun v4_28 =>
      lp_X_mirror_30
        (fun (v3_75 : Int) (v4_75 : Int) (M : mm_T) =>
          ck_ (v4_75 - v3_75) fun x79 =>
          ck_ (x79 - 1) fun x81 =>
          lt_ (mx_ v1 x81) fun v1_85 =>
          ck_ (v2 + 1) fun v2_86 =>
          lp_X_mirror_4 kx92 a0 f v1_85 v2_86 M
        )
        a0 FU_ v3_22 v4_28 M
    )

def k_X_mirror (a0 : Nat) (M : mm_T) : Option (Int × mm_T) :=
  lt_ (0 : Int) fun v1_1 =>
  lt_ (0 : Int) fun v2_3 =>
  lp_X_mirror_4
    (fun (v1_92 : Int) (M : mm_T) =>
      some (v1_92, M)
    )
    a0 FU_ v1_1 v2_3 M
def lp_Line_endIsLess_2 (kx56 : mm_T → Option (Int × mm_T)) (a0 : Nat) (v1 : Int) (v2 : Int) : Nat → Int → mm_T → Option (Int × mm_T)
  | 0, _, _ => none
  | f + 1, v3, M =>
    gI_ M a0 1 4 fun x4 =>
    if x4 ≤ v3 then (
      kx56 M
    ) else (
      ck_ (v1 + v3) fun x13 =>
      ob_ M a0 1 <| cl_ (k_Line_at a0 x13 M) fun c14 M =>
      ck_ (v2 + v3) fun x20 =>
      ob_ M a0 1 <| cl_ (k_Line_at a0 x20 M) fun c21 M =>
      if c14 = c21 then (
        ck_ (v3 + 1) fun v3_50 =>
        lp_Line_endIsLess_2 kx56 a0 v1 v2 f v3_50 M
      ) else (
        ck_ (v1 + v3) fun x30 =>
        ob_ M a0 1 <| cl_ (k_Line_at a0 x30 M) fun c31 M =>
        ck_ (v2 + v3) fun x37 =>
        ob_ M a0 1 <| cl_ (k_Line_at a0 x37 M) fun c38 M =>
        if c38 ≤ c31 then (
          zz_ 0 (some (0, M))
        ) else (
          zz_ 1 (some (1, M))
        )
      )
    )

def k_Line_endIsLess (a0 : Nat) (v1 : Int) (v2 : Int) (M : mm_T) : Option (Int × mm_T) :=
  lt_ (0 : Int) fun v3_1 =>
  lp_Line_endIsLess_2
    (fun (M : mm_T) =>
      zz_ 0 (some (0, M))
    )
    a0 v1 v2 FU_ v3_1 M
def lp_X_lyndon_7 (kx69 : Int → mm_T → Option (Int × mm_T)) (a0 : Nat) (v1 : Int) : Nat → Int → Int → Int → mm_T → Option (Int × mm_T)
  | 0, _, _, _, _ => none
  | f + 1, v2, v3, v4, M =>
    gR_ M a0 10 3 fun r10 =>
    gI_ M r10 1 4 fun x13 =>
    if x13 < v4 then (
      kx69 v3 M
    ) else (
      gR_ M a0 10 3 fun r22 =>
      gI_ M r22 1 4 fun x25 =>
      jn_ (fun (v2_63 : Int) (v3_63 : Int) (M : mm_T) =>
        ck_ (v4 + 1) fun v4_63 =>
        lp_X_lyndon_7 kx69 a0 v1 f v2_63 v3_63 v4_63 M
      ) fun j63 =>
      jn_ (fun (M : mm_T) =>
        if ¬ v3 = v1 then (
          ck_ (v3 + 1) fun v3_57 =>
          lt_ v4 fun v2_62 =>
          j63 v2_62 v3_57 M
        ) else (
          ck_ (v4 - v2) fun x55 =>
          some (x55, M)
        )
      ) fun j47 =>
      if x25 ≤ v4 then (
        j47 M
      ) else (
        gR_ M a0 10 3 fun r32 =>
        ob_ M r32 1 <| cl_ (k_Line_endIsLess r32 v4 v2 M) fun c38 M =>
        if ¬ c38 = 0 then (
          j47 M
        ) else (
          j63 v2 v3 M
        )
      )
    )

def k_X_lyndon (a0 : Nat) (v1 : Int) (M : mm_T) : Option (Int × mm_T) :=
  lt_ (0 : Int) fun v2_1 =>
  lt_ (0 : Int) fun v3_3 =>
  lt_ (1 : Int) fun v4_5 =>
  lp_X_lyndon_7
    (fun (v3_69 : Int) (M : mm_T) =>
      if ¬ v1 = (-1) then (
        some ((-1), M)
      ) else (
        some (v3_69, M)
      )
    )
    a0 v1 FU_ v2_1 v3_3 v4_5 M
def lp_Line_turnIsLess_2 (kx64 : mm_T → Option (Int × mm_T)) (a0 : Nat) (v1 : Int) (v2 : Int) : Nat → Int → mm_T → Option (Int × mm_T)
  | 0, _, _ => none
  | f + 1, v3, M =>
    gI_ M a0 1 4 fun x4 =>
    if x4 ≤ v3 then (
      kx64 M
    ) else (
      ck_ (v1 + v3) fun x13 =>
      gI_ M a0 1 4 fun x15 =>
      rm_ x13 x15 fun x18 =>
      ob_ M a0 1 <| cl_ (k_Line_at a0 x18 M) fun c19 M =>
      lt_ c19 fun v4_22 =>
      ck_ (v2 + v3) fun x27 =>
      gI_ M a0 1 4 fun x29 =>
      rm_ x27 x29 fun x32 =>
      ob_ M a0 1 <| cl_ (k_Line_at a0 x32 M) fun c33 M =>
      lt_ c33 fun v5_36 =>
      if v4_22 = v5_36 then (
        ck_ (v3 + 1) fun v3_58 =>
        lp_Line_turnIsLess_2 kx64 a0 v1 v2 f v3_58 M
      ) else (
        if v5_36 ≤ v4_22 then (
          zz_ 0 (some (0, M))
        ) else (
          zz_ 1 (some (1, M))
        )
      )
    )

def k_Line_turnIsLess (a0 : Nat) (v1 : Int) (v2 : Int) (M : mm_T) : Option (Int × mm_T) :=
  lt_ (0 : Int) fun v3_1 =>
  lp_Line_turnIsLess_2
    (fun (M : mm_T) =>
      zz_ 0 (some (0, M))
    )
    a0 v1 v2 FU_ v3_1 M
def lp_X_turned_16 (kx47 : Int → mm_T → Option (Int × mm_T)) (a0 : Nat) : Nat → Int → Int → mm_T → Option (Int × mm_T)
  | 0, _, _, _ => none
  | f + 1, v1, v2, M =>
    gR_ M a0 10 3 fun r18 =>
    gI_ M r18 1 4 fun x21 =>
    if x21 ≤ v2 then (
      kx47 v1 M
    ) else (
      gR_ M a0 10 3 fun r28 =>
      ob_ M r28 1 <| cl_ (k_Line_turnIsLess r28 v2 v1 M) fun c33 M =>
      jn_ (fun (v1_41 : Int) (M : mm_T) =>
        ck_ (v2 + 1) fun v2_41 =>
        lp_X_turned_16 kx47 a0 f v1_41 v2_41 M
      ) fun j41 =>
      if c33 = 0 then (
        j41 v1 M
      ) else (
        lt_ v2 fun v1_40 =>
        j41 v1_40 M
      )
    )

def k_X_turned (a0 : Nat) (M : mm_T) : Option (Int × mm_T) :=
  gR_ M a0 10 3 fun r1 =>
  gI_ M r1 1 4 fun x4 =>
  if ¬ x4 = 0 then (
    lt_ (0 : Int) fun v1_13 =>
    lt_ (1 : Int) fun v2_15 =>
    lp_X_turned_16
      (fun (v1_47 : Int) (M : mm_T) =>
        some (v1_47, M)
      )
      a0 FU_ v1_13 v2_15 M
  ) else (
    some ((-1), M)
  )
def lp_Line_repeatsAround_8 (kx46 : mm_T → Option (Int × mm_T)) (a0 : Nat) (v1 : Int) (v2 : Int) : Nat → Int → mm_T → Option (Int × mm_T)
  | 0, _, _ => none
  | f + 1, v3, M =>
    if v1 ≤ v3 then (
      kx46 M
    ) else (
      ck_ (v3 + v2) fun x15 =>
      gI_ M a0 1 4 fun x17 =>
      if x17 ≤ x15 then (
        kx46 M
      ) else (
        ob_ M a0 1 <| cl_ (k_Line_at a0 v3 M) fun c25 M =>
        ck_ (v3 + v2) fun x31 =>
        ob_ M a0 1 <| cl_ (k_Line_at a0 x31 M) fun c32 M =>
        if c25 = c32 then (
          ck_ (v3 + 1) fun v3_40 =>
          lp_Line_repeatsAround_8 kx46 a0 v1 v2 f v3_40 M
        ) else (
          zz_ 0 (some (0, M))
        )
      )
    )

def k_Line_repeatsAround (a0 : Nat) (v1 : Int) (v2 : Int) (M : mm_T) : Option (Int × mm_T) :=
  ck_ (v1 - v2) fun x3 =>
  lt_ (mx_ 0 x3) fun v3_7 =>
  lp_Line_repeatsAround_8
    (fun (M : mm_T) =>
      zz_ 1 (some (1, M))
    )
    a0 v1 v2 FU_ v3_7 M
def lp_X_local_17 (kx46 : Int → mm_T → Option ((Nat ⊕ Int) × mm_T)) (a0 : Nat) (v1 : Int) : Nat → Int → mm_T → Option ((Nat ⊕ Int) × mm_T)
  | 0, _, _ => none
  | f + 1, v2, M =>
    gR_ M a0 10 3 fun r19 =>
    gI_ M r19 1 4 fun x22 =>
    if x22 ≤ v2 then (
      kx46 v2 M
    ) else (
      gR_ M a0 10 3 fun r29 =>
      ob_ M r29 1 <| cl_ (k_Line_repeatsAround r29 v1 v2 M) fun c34 M =>
      if ¬ c34 = 0 then (
        kx46 v2 M
      ) else (
        ck_ (v2 + 1) fun v2_40 =>
        lp_X_local_17 kx46 a0 v1 f v2_40 M
      )
    )

def k_X_local (a0 : Nat) (v1 : Int) (M : mm_T) : Option ((Nat ⊕ Int) × mm_T) :=
  gR_ M a0 10 3 fun r4 =>
  gI_ M r4 1 4 fun x7 =>
  ck_ (x7 - 1) fun x11 =>
  ob_ M a0 10 <| cx_ (k_X_checkRange a0 v1 1 x11 M) (fun E M => some (.inl E, M)) fun _ M =>
  lt_ (1 : Int) fun v2_16 =>
  lp_X_local_17
    (fun (v2_46 : Int) (M : mm_T) =>
      some (.inr v2_46, M)
    )
    a0 v1 FU_ v2_16 M
def lp_Sizes_fits_30 (kx106 : Int → mm_T → Option (Int × mm_T)) (a0 : Nat) (a1 : Nat) (a2 : Nat) : Nat → Int → Int → mm_T → Option (Int × mm_T)
  | 0, _, _, _ => none
  | f + 1, v7, v8, M =>
    gI_ M a2 6 2 fun x33 =>
    if x33 ≤ v8 then (
      kx106 v7 M
    ) else (
      ob_ M a2 6 <| cl_ (k_Shape_at a2 v8 M) fun c42 M =>
      lt_ c42 fun v9_45 =>
      ob_ M a0 7 <| cl_ (k_Sizes_of a0 v9_45 M) fun c50 M =>
      lt_ c50 fun v10_53 =>
      ob_ M a0 7 <| cl_ (k_Sizes_edge a0 v9_45 M) fun c58 M =>
      jn_ (fun (M : mm_T) =>
        ck_ (v7 + v10_53) fun x97 =>
        lt_ x97 fun v7_98 =>
        ck_ (v8 + 1) fun v8_100 =>
        lp_Sizes_fits_30 kx106 a0 a1 a2 f v7_98 v8_100 M
      ) fun j93 =>
      if ¬ c58 = (-1) then (
        ob_ M a0 7 <| cl_ (k_Sizes_isAgainAt a0 a1 v9_45 v7 1 M) fun c85 M =>
        if ¬ c85 = 0 then (
          j93 M
        ) else (
          zz_ 0 (some (0, M))
        )
      ) else (
        ob_ M a0 7 <| cl_ (k_Sizes_set a0 v9_45 v10_53 v7 M) fun _ M =>
        j93 M
      )
    )

def k_Sizes_fits (a0 : Nat) (a1 : Nat) (a2 : Nat) (v3 : Int) (v4 : Int) (v5 : Int) (v6 : Int) (M : mm_T) : Option (Int × mm_T) :=
  ob_ M a0 7 <| cl_ (k_Sizes_set a0 0 v4 (-1) M) fun _ M =>
  ob_ M a0 7 <| cl_ (k_Sizes_set a0 1 v5 (-1) M) fun _ M =>
  ob_ M a0 7 <| cl_ (k_Sizes_set a0 2 v6 (-1) M) fun _ M =>
  lt_ v3 fun v7_25 =>
  lt_ (0 : Int) fun v8_28 =>
  lp_Sizes_fits_30
    (fun (v7_106 : Int) (M : mm_T) =>
      gI_ M a1 1 4 fun x109 =>
      if x109 < v7_106 then (
        zz_ 0 (some (0, M))
      ) else (
        zz_ 1 (some (1, M))
      )
    )
    a0 a1 a2 FU_ v7_25 v8_28 M
def k_Sizes_leastZ (a0 : Nat) (v1 : Int) (v2 : Int) (v3 : Int) (M : mm_T) : Option (Int × mm_T) :=
  jn_ (fun (M : mm_T) =>
    some (mn_ 1 v1, M)
  ) fun j18 =>
  if v3 = 0 then (
    j18 M
  ) else (
    if v1 ≤ 0 then (
      j18 M
    ) else (
      dv_ v2 v1 fun x11 =>
      some (mx_ 1 x11, M)
    )
  )
def lp_Sizes_choose_120 (kx195 : Int → mm_T → Option (Int × mm_T)) (a0 : Nat) (a1 : Nat) (a2 : Nat) (v3 : Int) (v4 : Int) (v5 : Int) (v10 : Int) (v11 : Int) (v13 : Int) (v14 : Int) : Nat → Int → Int → mm_T → Option (Int × mm_T)
  | 0, _, _, _ => none
  | f + 1, v7, v15, M =>
    ck_ (v15 * v10) fun x124 =>
    if v14 < x124 then (
      kx195 v7 M
    ) else (
      jn_ (fun (M : mm_T) =>
        jn_ (fun (v7_189 : Int) (M : mm_T) =>
          ck_ (v15 + 1) fun v15_189 =>
          lp_Sizes_choose_120 kx195 a0 a1 a2 v3 v4 v5 v10 v11 v13 v14 f v7_189 v15_189 M
        ) fun j189 =>
        jn_ (fun (M : mm_T) =>
          ob_ M a0 7 <| cl_ (k_Sizes_fits a0 a1 a2 v3 v11 v13 v15 M) fun c165 M =>
          if ¬ c165 = 0 then (
            ck_ (v7 + 1) fun v7_174 =>
            ck_ (v7_174 - 1) fun x180 =>
            if ¬ x180 = v5 then (
              j189 v7_174 M
            ) else (
              some (v7_174, M)
            )
          ) else (
            j189 v7 M
          )
        ) fun j155 =>
        if v4 = 0 then (
          j155 M
        ) else (
          ck_ (v15 * v10) fun x149 =>
          if x149 < v14 then (
            j189 v7 M
          ) else (
            j155 M
          )
        )
      ) fun j140 =>
      if v15 = 0 then (
        j140 M
      ) else (
        if v10 ≤ 0 then (
          kx195 v7 M
        ) else (
          j140 M
        )
      )
    )

def lp_Sizes_choose_78 (kx201 : Int → mm_T → Option (Int × mm_T)) (a0 : Nat) (a1 : Nat) (a2 : Nat) (v3 : Int) (v4 : Int) (v5 : Int) (v9 : Int) (v10 : Int) (v11 : Int) (v12 : Int) : Nat → Int → Int → mm_T → Option (Int × mm_T)
  | 0, _, _, _ => none
  | f + 1, v7, v13, M =>
    ck_ (v13 * v9) fun x82 =>
    if v12 < x82 then (
      kx201 v7 M
    ) else (
      jn_ (fun (M : mm_T) =>
        ck_ (v13 * v9) fun x104 =>
        ck_ (v12 - x104) fun x105 =>
        lt_ x105 fun v14_106 =>
        ob_ M a0 7 <| cl_ (k_Sizes_leastZ a0 v10 v14_106 v4 M) fun c115 M =>
        lt_ c115 fun v15_118 =>
        lp_Sizes_choose_120
          (fun (v7_195 : Int) (M : mm_T) =>
            ck_ (v13 + 1) fun v13_195 =>
            lp_Sizes_choose_78 kx201 a0 a1 a2 v3 v4 v5 v9 v10 v11 v12 f v7_195 v13_195 M
          )
          a0 a1 a2 v3 v4 v5 v10 v11 v13 v14_106 FU_ v7 v15_118 M
      ) fun j98 =>
      if v13 = 0 then (
        j98 M
      ) else (
        if v9 ≤ 0 then (
          kx201 v7 M
        ) else (
          j98 M
        )
      )
    )

def lp_Sizes_choose_40 (kx207 : Int → mm_T → Option (Int × mm_T)) (a0 : Nat) (a1 : Nat) (a2 : Nat) (v3 : Int) (v4 : Int) (v5 : Int) (v6 : Int) (v8 : Int) (v9 : Int) (v10 : Int) : Nat → Int → Int → mm_T → Option (Int × mm_T)
  | 0, _, _, _ => none
  | f + 1, v7, v11, M =>
    ck_ (v11 * v8) fun x44 =>
    if v6 < x44 then (
      kx207 v7 M
    ) else (
      jn_ (fun (M : mm_T) =>
        ck_ (v11 * v8) fun x66 =>
        ck_ (v6 - x66) fun x67 =>
        lt_ x67 fun v12_68 =>
        lt_ (mn_ 1 v9) fun v13_76 =>
        lp_Sizes_choose_78
          (fun (v7_201 : Int) (M : mm_T) =>
            ck_ (v11 + 1) fun v11_201 =>
            lp_Sizes_choose_40 kx207 a0 a1 a2 v3 v4 v5 v6 v8 v9 v10 f v7_201 v11_201 M
          )
          a0 a1 a2 v3 v4 v5 v9 v10 v11 v12_68 FU_ v7 v13_76 M
      ) fun j60 =>
      if v11 = 0 then (
        j60 M
      ) else (
        if v8 ≤ 0 then (
          kx207 v7 M
        ) else (
          j60 M
        )
      )
    )

def k_Sizes_choose (a0 : Nat) (a1 : Nat) (a2 : Nat) (v3 : Int) (v4 : Int) (v5 : Int) (M : mm_T) : Option (Int × mm_T) :=
  gI_ M a1 1 4 fun x1 =>
  ck_ (x1 - v3) fun x5 =>
  lt_ x5 fun v6_6 =>
  lt_ (0 : Int) fun v7_9 =>
  ob_ M a2 6 <| cl_ (k_Shape_times a2 0 M) fun c13 M =>
  lt_ c13 fun v8_16 =>
  ob_ M a2 6 <| cl_ (k_Shape_times a2 1 M) fun c20 M =>
  lt_ c20 fun v9_23 =>
  ob_ M a2 6 <| cl_ (k_Shape_times a2 2 M) fun c27 M =>
  lt_ c27 fun v10_30 =>
  lt_ (mn_ 1 v8_16) fun v11_38 =>
  lp_Sizes_choose_40
    (fun (v7_207 : Int) (M : mm_T) =>
      some (v7_207, M)
    )
    a0 a1 a2 v3 v4 v5 v6_6 v8_16 v9_23 v10_30 FU_ v7_9 v11_38 M
def lp_X_met_15 (kx94 : mm_T → Option ((Nat ⊕ Int) × mm_T)) (a0 : Nat) (v2 : Int) (a3 : Nat) : Nat → Int → mm_T → Option ((Nat ⊕ Int) × mm_T)
  | 0, _, _ => none
  | f + 1, v4, M =>
    gI_ M a3 6 2 fun x18 =>
    ck_ (v4 + x18) fun x21 =>
    gR_ M a0 10 3 fun r23 =>
    gI_ M r23 1 4 fun x26 =>
    if x26 < x21 then (
      kx94 M
    ) else (
      gR_ M a0 10 3 fun r33 =>
      gR_ M a0 10 6 fun r38 =>
      cl_ (k_Sizes_lays 10 r33 a3 r38 0 v4 1 M) fun c45 M =>
      if c45 = 0 then (
        ck_ (v4 + 1) fun v4_88 =>
        lp_X_met_15 kx94 a0 v2 a3 f v4_88 M
      ) else (
        gR_ M a0 10 6 fun r52 =>
        gR_ M a0 10 3 fun r56 =>
        ob_ M r52 7 <| cl_ (k_Sizes_choose r52 r56 a3 v4 0 0 M) fun c64 M =>
        if ¬ v2 = 0 then (
          gR_ M a0 10 6 fun r78 =>
          ck_ (v2 - 1) fun x83 =>
          ob_ M r78 7 <| cl_ (k_Sizes_of r78 x83 M) fun c84 M =>
          some (.inr c84, M)
        ) else (
          some (.inr v4, M)
        )
      )
    )

def k_X_met (a0 : Nat) (v1 : Int) (v2 : Int) (M : mm_T) : Option ((Nat ⊕ Int) × mm_T) :=
  ob_ M a0 10 <| cx_ (k_X_shapeOf a0 v1 M) (fun E M => some (.inl E, M)) fun c2 M =>
  lt_ c2 fun a3_5 =>
  ob_ M a0 10 <| cx_ (k_X_checkWhat a0 v2 3 M) (fun E M => some (.inl E, M)) fun _ M =>
  lt_ (0 : Int) fun v4_13 =>
  lp_X_met_15
    (fun (M : mm_T) =>
      some (.inr (-1), M)
    )
    a0 v2 a3_5 FU_ v4_13 M
def k_X_whole (a0 : Nat) (v1 : Int) (v2 : Int) (v3 : Int) (M : mm_T) : Option ((Nat ⊕ Int) × mm_T) :=
  ob_ M a0 10 <| cx_ (k_X_shapeOf a0 v1 M) (fun E M => some (.inl E, M)) fun c2 M =>
  lt_ c2 fun a4_5 =>
  ob_ M a0 10 <| cx_ (k_X_checkWhat a0 v3 2 M) (fun E M => some (.inl E, M)) fun _ M =>
  gR_ M a0 10 6 fun r14 =>
  gR_ M a0 10 3 fun r18 =>
  ob_ M r14 7 <| cl_ (k_Sizes_choose r14 r18 a4_5 0 1 v2 M) fun c26 M =>
  lt_ c26 fun v5_29 =>
  if ¬ v2 = (-1) then (
    jn_ (fun (M : mm_T) =>
      some (.inr (-1), M)
    ) fun j60 =>
    if v2 < 0 then (
      j60 M
    ) else (
      if v5_29 ≤ v2 then (
        j60 M
      ) else (
        gR_ M a0 10 6 fun r50 =>
        ob_ M r50 7 <| cl_ (k_Sizes_of r50 v3 M) fun c54 M =>
        some (.inr c54, M)
      )
    )
  ) else (
    some (.inr v5_29, M)
  )
def lp_Shape_isLoose_21 (kx107 : Int → Int → mm_T → Option (Int × mm_T)) (a0 : Nat) (v1 : Int) : Nat → Int → Int → Int → Int → mm_T → Option (Int × mm_T)
  | 0, _, _, _, _, _ => none
  | f + 1, v3, v4, v6, v7, M =>
    gI_ M a0 6 2 fun x24 =>
    if x24 ≤ v7 then (
      kx107 v3 v4 M
    ) else (
      ob_ M a0 6 <| cl_ (k_Shape_at a0 v7 M) fun c33 M =>
      lt_ c33 fun v8_36 =>
      jn_ (fun (v3_101 : Int) (v4_101 : Int) (v6_101 : Int) (M : mm_T) =>
        ck_ (v7 + 1) fun v7_101 =>
        lp_Shape_isLoose_21 kx107 a0 v1 f v3_101 v4_101 v6_101 v7_101 M
      ) fun j101 =>
      if ¬ and_ (shr_ v1 v8_36) 1 = 0 then (
        jn_ (fun (v4_74 : Int) (M : mm_T) =>
          jn_ (fun (v3_97 : Int) (M : mm_T) =>
            lt_ v8_36 fun v6_99 =>
            j101 v3_97 v4_74 v6_99 M
          ) fun j97 =>
          if v6 = (-1) then (
            j97 v3 M
          ) else (
            if and_ (shr_ v4_74 v8_36) 1 = 0 then (
              j97 v3 M
            ) else (
              lt_ (or_ v3 (shl_ 1 v6)) fun v3_96 =>
              j97 v3_96 M
            )
          )
        ) fun j74 =>
        if v6 = (-1) then (
          j74 v4 M
        ) else (
          if and_ (shr_ v3 v6) 1 = 0 then (
            j74 v4 M
          ) else (
            lt_ (or_ v4 (shl_ 1 v8_36)) fun v4_72 =>
            j74 v4_72 M
          )
        )
      ) else (
        j101 v3 v4 v6 M
      )
    )

def lp_Shape_isLoose_8 (kx113 : Int → mm_T → Option (Int × mm_T)) (a0 : Nat) (v1 : Int) : Nat → Int → Int → Int → mm_T → Option (Int × mm_T)
  | 0, _, _, _, _ => none
  | f + 1, v3, v4, v5, M =>
    if 6 ≤ v5 then (
      kx113 v4 M
    ) else (
      lt_ (-1 : Int) fun v6_16 =>
      lt_ (0 : Int) fun v7_19 =>
      lp_Shape_isLoose_21
        (fun (v3_107 : Int) (v4_107 : Int) (M : mm_T) =>
          ck_ (v5 + 1) fun v5_107 =>
          lp_Shape_isLoose_8 kx113 a0 v1 f v3_107 v4_107 v5_107 M
        )
        a0 v1 FU_ v3 v4 v6_16 v7_19 M
    )

def k_Shape_isLoose (a0 : Nat) (v1 : Int) (v2 : Int) (M : mm_T) : Option (Int × mm_T) :=
  lt_ v2 fun v3_1 =>
  lt_ (0 : Int) fun v4_3 =>
  lt_ (0 : Int) fun v5_6 =>
  lp_Shape_isLoose_8
    (fun (v4_113 : Int) (M : mm_T) =>
      if ¬ and_ v4_113 v2 = 0 then (
        zz_ 0 (some (0, M))
      ) else (
        zz_ 1 (some (1, M))
      )
    )
    a0 v1 FU_ v3_1 v4_3 v5_6 M
def lp_Shape_losesSome_2 (kx44 : mm_T → Option (Int × mm_T)) (a0 : Nat) (v1 : Int) (v2 : Int) : Nat → Int → mm_T → Option (Int × mm_T)
  | 0, _, _ => none
  | f + 1, v3, M =>
    if v1 ≤ v3 then (
      kx44 M
    ) else (
      jn_ (fun (M : mm_T) =>
        ck_ (v3 + 1) fun v3_38 =>
        lp_Shape_losesSome_2 kx44 a0 v1 v2 f v3_38 M
      ) fun j38 =>
      if ¬ and_ v3 (xor_ v1 (-1)) = 0 then (
        j38 M
      ) else (
        if and_ (shr_ v2 (and_ v1 (xor_ v3 (-1)))) 1 = 0 then (
          j38 M
        ) else (
          ob_ M a0 6 <| cl_ (k_Shape_isLoose a0 v1 v3 M) fun c30 M =>
          if c30 = 0 then (
            j38 M
          ) else (
            zz_ 1 (some (1, M))
          )
        )
      )
    )

def k_Shape_losesSome (a0 : Nat) (v1 : Int) (v2 : Int) (M : mm_T) : Option (Int × mm_T) :=
  lt_ (1 : Int) fun v3_1 =>
  lp_Shape_losesSome_2
    (fun (M : mm_T) =>
      zz_ 0 (some (0, M))
    )
    a0 v1 v2 FU_ v3_1 M
def lp_Shape_sizeWithin_4 (kx30 : Int → mm_T → Option (Int × mm_T)) (a0 : Nat) (v1 : Int) : Nat → Int → Int → mm_T → Option (Int × mm_T)
  | 0, _, _, _ => none
  | f + 1, v2, v3, M =>
    gI_ M a0 6 2 fun x6 =>
    if x6 ≤ v3 then (
      kx30 v2 M
    ) else (
      ob_ M a0 6 <| cl_ (k_Shape_at a0 v3 M) fun c16 M =>
      ck_ (v2 + (and_ (shr_ v1 c16) 1)) fun x22 =>
      lt_ x22 fun v2_23 =>
      ck_ (v3 + 1) fun v3_24 =>
      lp_Shape_sizeWithin_4 kx30 a0 v1 f v2_23 v3_24 M
    )

def k_Shape_sizeWithin (a0 : Nat) (v1 : Int) (M : mm_T) : Option (Int × mm_T) :=
  lt_ (0 : Int) fun v2_1 =>
  lt_ (0 : Int) fun v3_3 =>
  lp_Shape_sizeWithin_4
    (fun (v2_30 : Int) (M : mm_T) =>
      some (v2_30, M)
    )
    a0 v1 FU_ v2_1 v3_3 M
def lp_Shape_variables_4 (kx28 : Int → mm_T → Option (Int × mm_T)) (a0 : Nat) : Nat → Int → Int → mm_T → Option (Int × mm_T)
  | 0, _, _, _ => none
  | f + 1, v1, v2, M =>
    gI_ M a0 6 2 fun x6 =>
    if x6 ≤ v2 then (
      kx28 v1 M
    ) else (
      ob_ M a0 6 <| cl_ (k_Shape_at a0 v2 M) fun c16 M =>
      lt_ (or_ v1 (shl_ 1 c16)) fun v1_21 =>
      ck_ (v2 + 1) fun v2_22 =>
      lp_Shape_variables_4 kx28 a0 f v1_21 v2_22 M
    )

def k_Shape_variables (a0 : Nat) (M : mm_T) : Option (Int × mm_T) :=
  lt_ (0 : Int) fun v1_1 =>
  lt_ (0 : Int) fun v2_3 =>
  lp_Shape_variables_4
    (fun (v1_28 : Int) (M : mm_T) =>
      some (v1_28, M)
    )
    a0 FU_ v1_1 v2_3 M
def lp_Shape_cannotBeAvoided_9 (kx52 : Int → mm_T → Option (Int × mm_T)) (a0 : Nat) (v1 : Int) : Nat → Int → Int → mm_T → Option (Int × mm_T)
  | 0, _, _, _ => none
  | f + 1, v2, v3, M =>
    if v1 < v3 then (
      kx52 v2 M
    ) else (
      jn_ (fun (v2_46 : Int) (M : mm_T) =>
        ck_ (v3 + 1) fun v3_46 =>
        lp_Shape_cannotBeAvoided_9 kx52 a0 v1 f v2_46 v3_46 M
      ) fun j46 =>
      if ¬ and_ v3 (xor_ v1 (-1)) = 0 then (
        j46 v2 M
      ) else (
        ob_ M a0 6 <| cl_ (k_Shape_sizeWithin a0 v3 M) fun c24 M =>
        jn_ (fun (M : mm_T) =>
          lt_ (or_ v2 (shl_ 1 v3)) fun v2_45 =>
          j46 v2_45 M
        ) fun j40 =>
        if c24 = 1 then (
          j40 M
        ) else (
          ob_ M a0 6 <| cl_ (k_Shape_losesSome a0 v3 v2 M) fun c34 M =>
          if c34 = 0 then (
            j46 v2 M
          ) else (
            j40 M
          )
        )
      )
    )

def k_Shape_cannotBeAvoided (a0 : Nat) (M : mm_T) : Option (Int × mm_T) :=
  ob_ M a0 6 <| cl_ (k_Shape_variables a0 M) fun c1 M =>
  lt_ c1 fun v1_4 =>
  lt_ (0 : Int) fun v2_6 =>
  lt_ (1 : Int) fun v3_8 =>
  lp_Shape_cannotBeAvoided_9
    (fun (v2_52 : Int) (M : mm_T) =>
      if and_ (shr_ v2_52 v1_4) 1 = 0 then (
        zz_ 0 (some (0, M))
      ) else (
        zz_ 1 (some (1, M))
      )
    )
    a0 v1_4 FU_ v2_6 v3_8 M
def k_X_cannot (a0 : Nat) (v1 : Int) (M : mm_T) : Option ((Nat ⊕ Int) × mm_T) :=
  ob_ M a0 10 <| cx_ (k_X_shapeOf a0 v1 M) (fun E M => some (.inl E, M)) fun c2 M =>
  ob_ M c2 6 <| cl_ (k_Shape_cannotBeAvoided c2 M) fun c5 M =>
  zz_ c5 (some (.inr c5, M))
def lp_X_loose_18 (kx67 : Int → mm_T → Option ((Nat ⊕ Int) × mm_T)) (v2 : Int) (a3 : Nat) (v4 : Int) : Nat → Int → Int → mm_T → Option ((Nat ⊕ Int) × mm_T)
  | 0, _, _, _ => none
  | f + 1, v5, v6, M =>
    if v4 < v6 then (
      kx67 v5 M
    ) else (
      jn_ (fun (v5_61 : Int) (M : mm_T) =>
        ck_ (v6 + 1) fun v6_61 =>
        lp_X_loose_18 kx67 v2 a3 v4 f v5_61 v6_61 M
      ) fun j61 =>
      if ¬ and_ v6 (xor_ v4 (-1)) = 0 then (
        j61 v5 M
      ) else (
        ob_ M a3 6 <| cl_ (k_Shape_isLoose a3 v4 v6 M) fun c40 M =>
        if ¬ c40 = 0 then (
          if ¬ v5 = v2 then (
            ck_ (v5 + 1) fun v5_58 =>
            j61 v5_58 M
          ) else (
            some (.inr v6, M)
          )
        ) else (
          j61 v5 M
        )
      )
    )

def k_X_loose (a0 : Nat) (v1 : Int) (v2 : Int) (M : mm_T) : Option ((Nat ⊕ Int) × mm_T) :=
  ob_ M a0 10 <| cx_ (k_X_shapeOf a0 v1 M) (fun E M => some (.inl E, M)) fun c2 M =>
  lt_ c2 fun a3_5 =>
  ob_ M a3_5 6 <| cl_ (k_Shape_variables a3_5 M) fun c7 M =>
  lt_ c7 fun v4_10 =>
  lt_ (0 : Int) fun v5_13 =>
  lt_ (1 : Int) fun v6_16 =>
  lp_X_loose_18
    (fun (v5_67 : Int) (M : mm_T) =>
      if ¬ v2 = (-1) then (
        some (.inr (-1), M)
      ) else (
        some (.inr v5_67, M)
      )
    )
    v2 a3_5 v4_10 FU_ v5_13 v6_16 M
def k_X_pattern (a0 : Nat) (v1 : Int) (v2 : Int) (M : mm_T) : Option ((Nat ⊕ Int) × mm_T) :=
  ob_ M a0 10 <| cx_ (k_X_shapeOf a0 v1 M) (fun E M => some (.inl E, M)) fun c2 M =>
  lt_ c2 fun a3_5 =>
  ob_ M a0 10 <| cx_ (k_X_checkWhat a0 v2 2 M) (fun E M => some (.inl E, M)) fun _ M =>
  if ¬ v2 = 0 then (
    if ¬ v2 = 1 then (
      gI_ M a3_5 6 4 fun x36 =>
      if x36 = 0 then (
        some (.inr 0, M)
      ) else (
        some (.inr 1, M)
      )
    ) else (
      ob_ M a3_5 6 <| cl_ (k_Shape_variables a3_5 M) fun c29 M =>
      some (.inr c29, M)
    )
  ) else (
    gI_ M a3_5 6 2 fun x17 =>
    some (.inr x17, M)
  )
def k_X_avoid (a0 : Nat) (v1 : Int) (v2 : Int) (M : mm_T) : Option ((Nat ⊕ Int) × mm_T) :=
  ob_ M a0 10 <| cx_ (k_X_shapeOf a0 v1 M) (fun E M => some (.inl E, M)) fun c2 M =>
  lt_ c2 fun a3_5 =>
  gI_ M a3_5 6 4 fun x7 =>
  lt_ x7 fun v4_10 =>
  pZ_ M a3_5 6 4 v2 fun M =>
  zz_ v4_10 (some (.inr v4_10, M))
def k_X_limit (a0 : Nat) (v1 : Int) (v2 : Int) (v3 : Int) (M : mm_T) : Option ((Nat ⊕ Int) × mm_T) :=
  ob_ M a0 10 <| cx_ (k_X_checkRange a0 v1 0 2 M) (fun E M => some (.inl E, M)) fun _ M =>
  ob_ M a0 10 <| cx_ (k_X_checkRange a0 v2 1 99 M) (fun E M => some (.inl E, M)) fun _ M =>
  ob_ M a0 10 <| cx_ (k_X_checkRange a0 v3 1 9 M) (fun E M => some (.inl E, M)) fun _ M =>
  gR_ M a0 10 1 fun r24 =>
  gI_ M r24 9 3 fun x27 =>
  lt_ x27 fun v4_30 =>
  gR_ M a0 10 1 fun r33 =>
  ob_ M r33 9 <| cl_ (k_Told_setLimit r33 v1 v2 v3 M) fun _ M =>
  some (.inr v4_30, M)
def lp_Search_behind_5 (kx61 : Int → mm_T → Option (Int × mm_T)) (a1 : Nat) (a2 : Nat) : Nat → Int → Int → mm_T → Option (Int × mm_T)
  | 0, _, _, _ => none
  | f + 1, v3, v4, M =>
    gI_ M a1 9 2 fun x8 =>
    if x8 ≤ v4 then (
      kx61 v3 M
    ) else (
      gI_ M a2 1 4 fun x15 =>
      if 64 ≤ x15 then (
        kx61 v3 M
      ) else (
        ob_ M a2 1 <| cl_ (k_Line_add a2 v4 M) fun _ M =>
        gI_ M a2 1 4 fun x32 =>
        ck_ (x32 - 1) fun x36 =>
        ob_ M a2 1 <| cl_ (k_Line_isBadAt a2 a1 x36 M) fun c37 M =>
        jn_ (fun (v3_50 : Int) (M : mm_T) =>
          ob_ M a2 1 <| cl_ (k_Line_dropLast a2 M) fun c51 M =>
          ck_ (v4 + 1) fun v4_55 =>
          lp_Search_behind_5 kx61 a1 a2 f v3_50 v4_55 M
        ) fun j50 =>
        if ¬ c37 = 0 then (
          j50 v3 M
        ) else (
          lt_ (or_ v3 (shl_ 1 v4)) fun v3_49 =>
          j50 v3_49 M
        )
      )
    )

def k_Search_behind (a0 : Nat) (a1 : Nat) (a2 : Nat) (M : mm_T) : Option (Int × mm_T) :=
  lt_ (0 : Int) fun v3_1 =>
  lt_ (0 : Int) fun v4_3 =>
  lp_Search_behind_5
    (fun (v3_61 : Int) (M : mm_T) =>
      some (v3_61, M)
    )
    a1 a2 FU_ v3_1 v4_3 M
def k_X_goes (a0 : Nat) (M : mm_T) : Option (Int × mm_T) :=
  gR_ M a0 10 3 fun r1 =>
  gI_ M r1 1 4 fun x4 =>
  if 64 ≤ x4 then (
    some (0, M)
  ) else (
    gR_ M a0 10 3 fun r13 =>
    gR_ M a0 10 1 fun r17 =>
    ob_ M r13 1 <| cl_ (k_Line_firstBad r13 r17 M) fun c20 M =>
    if c20 = (-1) then (
      gR_ M a0 10 5 fun r30 =>
      gR_ M a0 10 1 fun r34 =>
      gR_ M a0 10 3 fun r38 =>
      ob_ M r30 5 <| cl_ (k_Search_behind r30 r34 r38 M) fun c41 M =>
      some (c41, M)
    ) else (
      some (0, M)
    )
  )
def lp_X_ahead_46 (kx78 : mm_T → Option (Int × mm_T)) (a0 : Nat) : Nat → Int → mm_T → Option (Int × mm_T)
  | 0, _, _ => none
  | f + 1, v3, M =>
    gR_ M a0 10 3 fun r48 =>
    gI_ M r48 1 4 fun x51 =>
    if x51 ≤ v3 then (
      kx78 M
    ) else (
      gR_ M a0 10 4 fun r58 =>
      gR_ M a0 10 3 fun r62 =>
      ob_ M r62 1 <| cl_ (k_Line_at r62 v3 M) fun c66 M =>
      ob_ M r58 1 <| cl_ (k_Line_add r58 c66 M) fun _ M =>
      ck_ (v3 + 1) fun v3_72 =>
      lp_X_ahead_46 kx78 a0 f v3_72 M
    )

def lp_X_ahead_18 (kx105 : Int → mm_T → Option (Int × mm_T)) (a0 : Nat) : Nat → Int → Int → mm_T → Option (Int × mm_T)
  | 0, _, _, _ => none
  | f + 1, v1, v2, M =>
    gR_ M a0 10 1 fun r20 =>
    gI_ M r20 9 2 fun x23 =>
    if x23 ≤ v2 then (
      kx105 v1 M
    ) else (
      gR_ M a0 10 4 fun r30 =>
      ob_ M r30 1 <| cl_ (k_Line_clear r30 M) fun _ M =>
      gR_ M a0 10 4 fun r37 =>
      ob_ M r37 1 <| cl_ (k_Line_add r37 v2 M) fun _ M =>
      lt_ (0 : Int) fun v3_45 =>
      lp_X_ahead_46
        (fun (M : mm_T) =>
          gR_ M a0 10 4 fun r79 =>
          gR_ M a0 10 1 fun r83 =>
          ob_ M r79 1 <| cl_ (k_Line_firstBad r79 r83 M) fun c86 M =>
          jn_ (fun (v1_99 : Int) (M : mm_T) =>
            ck_ (v2 + 1) fun v2_99 =>
            lp_X_ahead_18 kx105 a0 f v1_99 v2_99 M
          ) fun j99 =>
          if ¬ c86 = (-1) then (
            j99 v1 M
          ) else (
            lt_ (or_ v1 (shl_ 1 v2)) fun v1_98 =>
            j99 v1_98 M
          )
        )
        a0 FU_ v3_45 M
    )

def k_X_ahead (a0 : Nat) (M : mm_T) : Option (Int × mm_T) :=
  gR_ M a0 10 3 fun r1 =>
  gI_ M r1 1 4 fun x4 =>
  if x4 < 64 then (
    lt_ (0 : Int) fun v1_15 =>
    lt_ (0 : Int) fun v2_17 =>
    lp_X_ahead_18
      (fun (v1_105 : Int) (M : mm_T) =>
        some (v1_105, M)
      )
      a0 FU_ v1_15 v2_17 M
  ) else (
    some (0, M)
  )
def k_Search_begin (a0 : Nat) (a1 : Nat) (v2 : Int) (v3 : Int) (v4 : Int) (M : mm_T) : Option (Unit × mm_T) :=
  gR_ M a0 5 0 fun r1 =>
  ob_ M r1 1 <| cl_ (k_Line_copy r1 a1 v2 M) fun _ M =>
  pI_ M a0 5 2 v3 fun M =>
  pI_ M a0 5 3 v4 fun M =>
  pI_ M a0 5 4 0 fun M =>
  pI_ M a0 5 6 v2 fun M =>
  some ((), M)
def lp_Search_seek_52 (kx222 : mm_T → Option (Int × mm_T)) (a0 : Nat) : Nat → Int → mm_T → Option (Int × mm_T)
  | 0, _, _ => none
  | f + 1, v1, M =>
    if 1000000 ≤ v1 then (
      kx222 M
    ) else (
      gI_ M a0 5 4 fun x59 =>
      gR_ M a0 5 1 fun r63 =>
      gI_ M r63 9 2 fun x66 =>
      jn_ (fun (M : mm_T) =>
        ck_ (v1 + 1) fun v1_216 =>
        lp_Search_seek_52 kx222 a0 f v1_216 M
      ) fun j216 =>
      if x59 < x66 then (
        gI_ M a0 5 5 fun x105 =>
        if x105 < 5000 then (
          gI_ M a0 5 5 fun x119 =>
          ck_ (x119 + 1) fun x123 =>
          pI_ M a0 5 5 x123 fun M =>
          gR_ M a0 5 0 fun r128 =>
          gI_ M a0 5 4 fun x132 =>
          ob_ M r128 1 <| cl_ (k_Line_add r128 x132 M) fun _ M =>
          gR_ M a0 5 0 fun r139 =>
          gR_ M a0 5 1 fun r143 =>
          gR_ M a0 5 0 fun r147 =>
          gI_ M r147 1 4 fun x150 =>
          ck_ (x150 - 1) fun x154 =>
          ob_ M r139 1 <| cl_ (k_Line_isBadAt r139 r143 x154 M) fun c155 M =>
          if c155 = 0 then (
            pI_ M a0 5 4 0 fun M =>
            gI_ M a0 5 6 fun x184 =>
            gR_ M a0 5 0 fun r188 =>
            gI_ M r188 1 4 fun x191 =>
            pI_ M a0 5 6 (mx_ x184 x191) fun M =>
            gR_ M a0 5 0 fun r201 =>
            gI_ M r201 1 4 fun x204 =>
            gI_ M a0 5 3 fun x208 =>
            if x204 < x208 then (
              j216 M
            ) else (
              some (1, M)
            )
          ) else (
            gR_ M a0 5 0 fun r163 =>
            ob_ M r163 1 <| cl_ (k_Line_dropLast r163 M) fun c166 M =>
            ck_ (c166 + 1) fun x170 =>
            pI_ M a0 5 4 x170 fun M =>
            j216 M
          )
        ) else (
          some ((-2), M)
        )
      ) else (
        gR_ M a0 5 0 fun r73 =>
        gI_ M r73 1 4 fun x76 =>
        gI_ M a0 5 2 fun x80 =>
        if x80 < x76 then (
          gR_ M a0 5 0 fun r90 =>
          ob_ M r90 1 <| cl_ (k_Line_dropLast r90 M) fun c93 M =>
          ck_ (c93 + 1) fun x97 =>
          pI_ M a0 5 4 x97 fun M =>
          j216 M
        ) else (
          some ((-1), M)
        )
      )
    )

def k_Search_seek (a0 : Nat) (M : mm_T) : Option (Int × mm_T) :=
  gR_ M a0 5 1 fun r1 =>
  nn_ r1 (
    some ((-1), M)
  ) (
    gR_ M a0 5 0 fun r10 =>
    gI_ M r10 1 4 fun x13 =>
    gI_ M a0 5 3 fun x17 =>
    jn_ (fun (M : mm_T) =>
      lt_ (0 : Int) fun v1_51 =>
      lp_Search_seek_52
        (fun (M : mm_T) =>
          some ((-2), M)
        )
        a0 FU_ v1_51 M
    ) fun j50 =>
    if x13 < x17 then (
      j50 M
    ) else (
      gR_ M a0 5 0 fun r24 =>
      gI_ M r24 1 4 fun x27 =>
      gI_ M a0 5 2 fun x31 =>
      if x27 ≤ x31 then (
        j50 M
      ) else (
        gR_ M a0 5 0 fun r39 =>
        ob_ M r39 1 <| cl_ (k_Line_dropLast r39 M) fun c42 M =>
        ck_ (c42 + 1) fun x46 =>
        pI_ M a0 5 4 x46 fun M =>
        j50 M
      )
    )
  )
def k_Search_deepestBehind (a0 : Nat) (M : mm_T) : Option (Int × mm_T) :=
  ob_ M a0 5 <| cl_ (k_Search_seek a0 M) fun c1 M =>
  lt_ c1 fun v1_4 =>
  if ¬ v1_4 = (-2) then (
    gI_ M a0 5 6 fun x17 =>
    gI_ M a0 5 2 fun x21 =>
    ck_ (x17 - x21) fun x24 =>
    some (x24, M)
  ) else (
    some ((-2), M)
  )
def k_Search_reset (a0 : Nat) (a1 : Nat) (M : mm_T) : Option (Unit × mm_T) :=
  pR_ M a0 5 1 a1 fun M =>
  pI_ M a0 5 5 0 fun M =>
  some ((), M)
def k_X_further (a0 : Nat) (M : mm_T) : Option (Int × mm_T) :=
  gR_ M a0 10 3 fun r5 =>
  gI_ M r5 1 4 fun x8 =>
  ck_ (64 - x8) fun x11 =>
  lt_ (mn_ 20 x11) fun v1_15 =>
  if v1_15 ≤ 0 then (
    some (0, M)
  ) else (
    gR_ M a0 10 3 fun r21 =>
    gR_ M a0 10 1 fun r25 =>
    ob_ M r21 1 <| cl_ (k_Line_firstBad r21 r25 M) fun c28 M =>
    if c28 = (-1) then (
      gR_ M a0 10 5 fun r38 =>
      gR_ M a0 10 1 fun r42 =>
      ob_ M r38 5 <| cl_ (k_Search_reset r38 r42 M) fun _ M =>
      gR_ M a0 10 5 fun r49 =>
      gR_ M a0 10 3 fun r53 =>
      gR_ M a0 10 3 fun r57 =>
      gI_ M r57 1 4 fun x60 =>
      gR_ M a0 10 3 fun r64 =>
      gI_ M r64 1 4 fun x67 =>
      gR_ M a0 10 3 fun r71 =>
      gI_ M r71 1 4 fun x74 =>
      ck_ (x74 + v1_15) fun x78 =>
      ob_ M r49 5 <| cl_ (k_Search_begin r49 r53 x60 x67 x78 M) fun _ M =>
      gR_ M a0 10 5 fun r83 =>
      ob_ M r83 5 <| cl_ (k_Search_deepestBehind r83 M) fun c86 M =>
      some (c86, M)
    ) else (
      some (0, M)
    )
  )
def k_X_longest (a0 : Nat) (M : mm_T) : Option (Int × mm_T) :=
  gR_ M a0 10 5 fun r1 =>
  gR_ M a0 10 1 fun r5 =>
  ob_ M r1 5 <| cl_ (k_Search_reset r1 r5 M) fun _ M =>
  gR_ M a0 10 5 fun r12 =>
  gR_ M a0 10 3 fun r16 =>
  ob_ M r12 5 <| cl_ (k_Search_begin r12 r16 0 0 40 M) fun _ M =>
  gR_ M a0 10 5 fun r27 =>
  ob_ M r27 5 <| cl_ (k_Search_deepestBehind r27 M) fun c30 M =>
  some (c30, M)
def lp_X_becomeNth_36 (kx69 : Int → mm_T → Option (Int × mm_T)) (a0 : Nat) (v2 : Int) : Nat → Int → Int → mm_T → Option (Int × mm_T)
  | 0, _, _, _ => none
  | f + 1, v3, v4, M =>
    if v2 ≤ v4 then (
      kx69 v3 M
    ) else (
      if 5000 ≤ v4 then (
        kx69 v3 M
      ) else (
        if ¬ v3 = 1 then (
          kx69 v3 M
        ) else (
          gR_ M a0 10 5 fun r56 =>
          ob_ M r56 5 <| cl_ (k_Search_seek r56 M) fun c59 M =>
          lt_ c59 fun v3_62 =>
          ck_ (v4 + 1) fun v4_63 =>
          lp_X_becomeNth_36 kx69 a0 v2 f v3_62 v4_63 M
        )
      )
    )

def k_X_becomeNth (a0 : Nat) (v1 : Int) (v2 : Int) (M : mm_T) : Option (Int × mm_T) :=
  gR_ M a0 10 5 fun r1 =>
  gR_ M a0 10 1 fun r5 =>
  ob_ M r1 5 <| cl_ (k_Search_reset r1 r5 M) fun _ M =>
  gR_ M a0 10 5 fun r12 =>
  gR_ M a0 10 3 fun r16 =>
  ob_ M r12 5 <| cl_ (k_Search_begin r12 r16 0 0 v1 M) fun _ M =>
  gR_ M a0 10 5 fun r26 =>
  ob_ M r26 5 <| cl_ (k_Search_seek r26 M) fun c29 M =>
  lt_ c29 fun v3_32 =>
  lt_ (0 : Int) fun v4_34 =>
  lp_X_becomeNth_36
    (fun (v3_69 : Int) (M : mm_T) =>
      if v3_69 = 1 then (
        gR_ M a0 10 5 fun r78 =>
        gR_ M r78 5 0 fun r81 =>
        ob_ M a0 10 <| cl_ (k_X_become a0 r81 M) fun _ M =>
        gR_ M a0 10 5 fun r88 =>
        gI_ M r88 5 5 fun x91 =>
        some (x91, M)
      ) else (
        some (v3_69, M)
      )
    )
    a0 v2 FU_ v3_32 v4_34 M
def k_X_first (a0 : Nat) (v1 : Int) (M : mm_T) : Option ((Nat ⊕ Int) × mm_T) :=
  ob_ M a0 10 <| cx_ (k_X_checkRange a0 v1 1 40 M) (fun E M => some (.inl E, M)) fun _ M =>
  ob_ M a0 10 <| cl_ (k_X_becomeNth a0 v1 0 M) fun c11 M =>
  some (.inr c11, M)
def k_X_nth (a0 : Nat) (v1 : Int) (v2 : Int) (M : mm_T) : Option ((Nat ⊕ Int) × mm_T) :=
  ob_ M a0 10 <| cx_ (k_X_checkRange a0 v1 1 40 M) (fun E M => some (.inl E, M)) fun _ M =>
  if 0 ≤ v2 then (
    ob_ M a0 10 <| cl_ (k_X_becomeNth a0 v1 v2 M) fun c23 M =>
    some (.inr c23, M)
  ) else (
    th_ M 1
  )
def k_X_checkSearched (a0 : Nat) (M : mm_T) : Option ((Nat ⊕ Unit) × mm_T) :=
  gR_ M a0 10 3 fun r1 =>
  gI_ M r1 1 4 fun x4 =>
  if x4 ≤ 40 then (
    some (.inr (), M)
  ) else (
    th_ M 2
  )
def lp_Line_firstUnlike_2 (kx31 : mm_T → Option (Int × mm_T)) (a0 : Nat) (a1 : Nat) : Nat → Int → mm_T → Option (Int × mm_T)
  | 0, _, _ => none
  | f + 1, v2, M =>
    gI_ M a0 1 4 fun x4 =>
    if x4 ≤ v2 then (
      kx31 M
    ) else (
      ob_ M a0 1 <| cl_ (k_Line_at a0 v2 M) fun c12 M =>
      ob_ M a1 1 <| cl_ (k_Line_at a1 v2 M) fun c17 M =>
      if c12 = c17 then (
        ck_ (v2 + 1) fun v2_25 =>
        lp_Line_firstUnlike_2 kx31 a0 a1 f v2_25 M
      ) else (
        some (v2, M)
      )
    )

def k_Line_firstUnlike (a0 : Nat) (a1 : Nat) (M : mm_T) : Option (Int × mm_T) :=
  lt_ (0 : Int) fun v2_1 =>
  lp_Line_firstUnlike_2
    (fun (M : mm_T) =>
      some ((-1), M)
    )
    a0 a1 FU_ v2_1 M
def k_X_next (a0 : Nat) (M : mm_T) : Option ((Nat ⊕ Int) × mm_T) :=
  ob_ M a0 10 <| cx_ (k_X_checkSearched a0 M) (fun E M => some (.inl E, M)) fun _ M =>
  gR_ M a0 10 3 fun r5 =>
  gI_ M r5 1 4 fun x8 =>
  if ¬ x8 = 0 then (
    gR_ M a0 10 3 fun r17 =>
    gR_ M a0 10 1 fun r21 =>
    ob_ M r17 1 <| cl_ (k_Line_firstBad r17 r21 M) fun c24 M =>
    lt_ c24 fun v1_27 =>
    jn_ (fun (s0_46 : Int) (M : mm_T) =>
      lt_ s0_46 fun v2_46 =>
      gR_ M a0 10 5 fun r48 =>
      gR_ M a0 10 1 fun r52 =>
      ob_ M r48 5 <| cl_ (k_Search_reset r48 r52 M) fun _ M =>
      gR_ M a0 10 5 fun r59 =>
      gR_ M a0 10 3 fun r63 =>
      gR_ M a0 10 3 fun r69 =>
      gI_ M r69 1 4 fun x72 =>
      ob_ M r59 5 <| cl_ (k_Search_begin r59 r63 v2_46 0 x72 M) fun _ M =>
      gR_ M a0 10 5 fun r79 =>
      gR_ M a0 10 3 fun r83 =>
      ob_ M r83 1 <| cl_ (k_Line_at r83 v2_46 M) fun c87 M =>
      ck_ (c87 + 1) fun x91 =>
      pI_ M r79 5 4 x91 fun M =>
      gR_ M a0 10 5 fun r96 =>
      ob_ M r96 5 <| cl_ (k_Search_seek r96 M) fun c99 M =>
      lt_ c99 fun v3_102 =>
      if v3_102 = 1 then (
        gR_ M a0 10 3 fun r111 =>
        gR_ M a0 10 5 fun r115 =>
        gR_ M r115 5 0 fun r118 =>
        ob_ M r111 1 <| cl_ (k_Line_firstUnlike r111 r118 M) fun c121 M =>
        lt_ c121 fun v4_124 =>
        gR_ M a0 10 5 fun r128 =>
        gR_ M r128 5 0 fun r131 =>
        ob_ M a0 10 <| cl_ (k_X_become a0 r131 M) fun _ M =>
        some (.inr v4_124, M)
      ) else (
        some (.inr v3_102, M)
      )
    ) fun j46 =>
    if ¬ v1_27 = (-1) then (
      j46 v1_27 M
    ) else (
      gR_ M a0 10 3 fun r34 =>
      gI_ M r34 1 4 fun x37 =>
      ck_ (x37 - 1) fun x41 =>
      j46 x41 M
    )
  ) else (
    some (.inr (-1), M)
  )
def lp_X_howMany_41 (kx67 : Int → Int → mm_T → Option (Int × mm_T)) (a0 : Nat) : Nat → Int → Int → mm_T → Option (Int × mm_T)
  | 0, _, _, _ => none
  | f + 1, v2, v3, M =>
    if 5000 ≤ v2 then (
      kx67 v2 v3 M
    ) else (
      if ¬ v3 = 1 then (
        kx67 v2 v3 M
      ) else (
        gR_ M a0 10 5 fun r54 =>
        ob_ M r54 5 <| cl_ (k_Search_seek r54 M) fun c57 M =>
        lt_ c57 fun v3_60 =>
        ck_ (v2 + 1) fun v2_61 =>
        lp_X_howMany_41 kx67 a0 f v2_61 v3_60 M
      )
    )

def k_X_howMany (a0 : Nat) (v1 : Int) (M : mm_T) : Option (Int × mm_T) :=
  if ¬ v1 = 0 then (
    gR_ M a0 10 5 fun r7 =>
    gR_ M a0 10 1 fun r11 =>
    ob_ M r7 5 <| cl_ (k_Search_reset r7 r11 M) fun _ M =>
    gR_ M a0 10 5 fun r18 =>
    gR_ M a0 10 3 fun r22 =>
    ob_ M r18 5 <| cl_ (k_Search_begin r18 r22 0 0 v1 M) fun _ M =>
    lt_ (0 : Int) fun v2_32 =>
    gR_ M a0 10 5 fun r34 =>
    ob_ M r34 5 <| cl_ (k_Search_seek r34 M) fun c37 M =>
    lt_ c37 fun v3_40 =>
    lp_X_howMany_41
      (fun (v2_67 : Int) (v3_67 : Int) (M : mm_T) =>
        if ¬ v3_67 = (-2) then (
          some (v2_67, M)
        ) else (
          some ((-2), M)
        )
      )
      a0 FU_ v2_32 v3_40 M
  ) else (
    some (1, M)
  )
def k_X_many (a0 : Nat) (v1 : Int) (M : mm_T) : Option ((Nat ⊕ Int) × mm_T) :=
  ob_ M a0 10 <| cx_ (k_X_checkRange a0 v1 0 40 M) (fun E M => some (.inl E, M)) fun _ M =>
  ob_ M a0 10 <| cl_ (k_X_howMany a0 v1 M) fun c10 M =>
  some (.inr c10, M)
def k_X_growth (a0 : Nat) (v1 : Int) (M : mm_T) : Option ((Nat ⊕ Int) × mm_T) :=
  ob_ M a0 10 <| cx_ (k_X_checkRange a0 v1 0 39 M) (fun E M => some (.inl E, M)) fun _ M =>
  ob_ M a0 10 <| cl_ (k_X_howMany a0 v1 M) fun c10 M =>
  lt_ c10 fun v2_13 =>
  if ¬ v2_13 = (-2) then (
    if 0 < v2_13 then (
      ck_ (v1 + 1) fun x32 =>
      ob_ M a0 10 <| cl_ (k_X_howMany a0 x32 M) fun c33 M =>
      lt_ c33 fun v3_36 =>
      if ¬ v3_36 = (-2) then (
        ck_ (1000 * v3_36) fun x52 =>
        dv_ x52 v2_13 fun x54 =>
        some (.inr x54, M)
      ) else (
        some (.inr (-2), M)
      )
    ) else (
      some (.inr (-1), M)
    )
  ) else (
    some (.inr (-2), M)
  )
def lp_X_stuck_77 (kx128 : Int → Int → mm_T → Option ((Nat ⊕ Int) × mm_T)) (a0 : Nat) : Nat → Int → Int → Int → mm_T → Option ((Nat ⊕ Int) × mm_T)
  | 0, _, _, _, _ => none
  | f + 1, v2, v3, v4, M =>
    if 5000 ≤ v4 then (
      kx128 v2 v3 M
    ) else (
      if ¬ v3 = 1 then (
        kx128 v2 v3 M
      ) else (
        gR_ M a0 10 5 fun r91 =>
        gR_ M a0 10 1 fun r95 =>
        gR_ M a0 10 5 fun r99 =>
        gR_ M r99 5 0 fun r102 =>
        ob_ M r91 5 <| cl_ (k_Search_behind r91 r95 r102 M) fun c105 M =>
        jn_ (fun (v2_114 : Int) (M : mm_T) =>
          gR_ M a0 10 5 fun r115 =>
          ob_ M r115 5 <| cl_ (k_Search_seek r115 M) fun c118 M =>
          lt_ c118 fun v3_121 =>
          ck_ (v4 + 1) fun v4_122 =>
          lp_X_stuck_77 kx128 a0 f v2_114 v3_121 v4_122 M
        ) fun j114 =>
        if ¬ c105 = 0 then (
          j114 v2 M
        ) else (
          ck_ (v2 + 1) fun v2_111 =>
          j114 v2_111 M
        )
      )
    )

def k_X_stuck (a0 : Nat) (v1 : Int) (M : mm_T) : Option ((Nat ⊕ Int) × mm_T) :=
  ob_ M a0 10 <| cx_ (k_X_checkRange a0 v1 0 40 M) (fun E M => some (.inl E, M)) fun _ M =>
  gR_ M a0 10 5 fun r9 =>
  gR_ M a0 10 1 fun r13 =>
  ob_ M r9 5 <| cl_ (k_Search_reset r9 r13 M) fun _ M =>
  gR_ M a0 10 5 fun r20 =>
  gR_ M a0 10 3 fun r24 =>
  ob_ M r20 5 <| cl_ (k_Search_begin r20 r24 0 0 v1 M) fun _ M =>
  if ¬ v1 = 0 then (
    lt_ (0 : Int) fun v2_65 =>
    gR_ M a0 10 5 fun r67 =>
    ob_ M r67 5 <| cl_ (k_Search_seek r67 M) fun c70 M =>
    lt_ c70 fun v3_73 =>
    lt_ (0 : Int) fun v4_75 =>
    lp_X_stuck_77
      (fun (v2_128 : Int) (v3_128 : Int) (M : mm_T) =>
        if ¬ v3_128 = (-2) then (
          some (.inr v2_128, M)
        ) else (
          some (.inr (-2), M)
        )
      )
      a0 FU_ v2_65 v3_73 v4_75 M
  ) else (
    gR_ M a0 10 5 fun r38 =>
    gR_ M a0 10 1 fun r42 =>
    gR_ M a0 10 5 fun r46 =>
    gR_ M r46 5 0 fun r49 =>
    ob_ M r38 5 <| cl_ (k_Search_behind r38 r42 r49 M) fun c52 M =>
    if ¬ c52 = 0 then (
      some (.inr 0, M)
    ) else (
      some (.inr 1, M)
    )
  )
def k_Line_isAheadOf (a0 : Nat) (a1 : Nat) (M : mm_T) : Option (Int × mm_T) :=
  ob_ M a0 1 <| cl_ (k_Line_firstUnlike a0 a1 M) fun c2 M =>
  lt_ c2 fun v2_5 =>
  jn_ (fun (M : mm_T) =>
    zz_ 0 (some (0, M))
  ) fun j28 =>
  if v2_5 = (-1) then (
    j28 M
  ) else (
    ob_ M a0 1 <| cl_ (k_Line_at a0 v2_5 M) fun c13 M =>
    ob_ M a1 1 <| cl_ (k_Line_at a1 v2_5 M) fun c18 M =>
    if c18 ≤ c13 then (
      j28 M
    ) else (
      zz_ 1 (some (1, M))
    )
  )
def lp_X_rank_57 (kx100 : Int → Int → mm_T → Option ((Nat ⊕ Int) × mm_T)) (a0 : Nat) : Nat → Int → Int → mm_T → Option ((Nat ⊕ Int) × mm_T)
  | 0, _, _, _ => none
  | f + 1, v1, v2, M =>
    if 5000 ≤ v2 then (
      kx100 v1 v2 M
    ) else (
      if ¬ v1 = 1 then (
        kx100 v1 v2 M
      ) else (
        gR_ M a0 10 5 fun r70 =>
        gR_ M r70 5 0 fun r73 =>
        gR_ M a0 10 3 fun r77 =>
        ob_ M r73 1 <| cl_ (k_Line_isAheadOf r73 r77 M) fun c80 M =>
        if c80 = 0 then (
          kx100 v1 v2 M
        ) else (
          gR_ M a0 10 5 fun r87 =>
          ob_ M r87 5 <| cl_ (k_Search_seek r87 M) fun c90 M =>
          lt_ c90 fun v1_93 =>
          ck_ (v2 + 1) fun v2_94 =>
          lp_X_rank_57 kx100 a0 f v1_93 v2_94 M
        )
      )
    )

def k_X_rank (a0 : Nat) (M : mm_T) : Option ((Nat ⊕ Int) × mm_T) :=
  ob_ M a0 10 <| cx_ (k_X_checkSearched a0 M) (fun E M => some (.inl E, M)) fun _ M =>
  gR_ M a0 10 3 fun r5 =>
  gI_ M r5 1 4 fun x8 =>
  if ¬ x8 = 0 then (
    gR_ M a0 10 5 fun r17 =>
    gR_ M a0 10 1 fun r21 =>
    ob_ M r17 5 <| cl_ (k_Search_reset r17 r21 M) fun _ M =>
    gR_ M a0 10 5 fun r28 =>
    gR_ M a0 10 3 fun r32 =>
    gR_ M a0 10 3 fun r38 =>
    gI_ M r38 1 4 fun x41 =>
    ob_ M r28 5 <| cl_ (k_Search_begin r28 r32 0 0 x41 M) fun _ M =>
    gR_ M a0 10 5 fun r48 =>
    ob_ M r48 5 <| cl_ (k_Search_seek r48 M) fun c51 M =>
    lt_ c51 fun v1_54 =>
    lt_ (0 : Int) fun v2_56 =>
    lp_X_rank_57
      (fun (v1_100 : Int) (v2_100 : Int) (M : mm_T) =>
        if ¬ v1_100 = (-2) then (
          some (.inr v2_100, M)
        ) else (
          some (.inr (-2), M)
        )
      )
      a0 FU_ v1_54 v2_56 M
  ) else (
    some (.inr 0, M)
  )
def k_Line_lay (a0 : Nat) (v1 : Int) (v2 : Int) (M : mm_T) : Option (Unit × mm_T) :=
  ob_ M a0 1 <| cl_ (k_Line_at a0 v1 M) fun c2 M =>
  if c2 = v2 then (
    some ((), M)
  ) else (
    ob_ M a0 1 <| cl_ (k_Line_cutTo a0 v1 M) fun _ M =>
    ob_ M a0 1 <| cl_ (k_Line_add a0 v2 M) fun _ M =>
    some ((), M)
  )
def k_Morph_sizeOf (a0 : Nat) (v1 : Int) (M : mm_T) : Option (Int × mm_T) :=
  jn_ (fun (M : mm_T) =>
    some (0, M)
  ) fun j22 =>
  if v1 < 0 then (
    j22 M
  ) else (
    gR_ M a0 2 2 fun r6 =>
    al_ M r6 0 fun x9 =>
    if x9 ≤ v1 then (
      j22 M
    ) else (
      gR_ M a0 2 2 fun r14 =>
      aI_ M r14 0 v1 fun x18 =>
      some (x18, M)
    )
  )
def k_Morph_at (a0 : Nat) (v1 : Int) (v2 : Int) (M : mm_T) : Option (Int × mm_T) :=
  jn_ (fun (M : mm_T) =>
    some ((-1), M)
  ) fun j30 =>
  if v2 < 0 then (
    j30 M
  ) else (
    ob_ M a0 2 <| cl_ (k_Morph_sizeOf a0 v1 M) fun c7 M =>
    if c7 ≤ v2 then (
      j30 M
    ) else (
      if 6 ≤ v2 then (
        j30 M
      ) else (
        gR_ M a0 2 1 fun r20 =>
        aR_ M r20 4 v1 fun r24 =>
        aI_ M r24 0 v2 fun x26 =>
        some (x26, M)
      )
    )
  )
def lp_Morph_draw_25 (kx58 : Int → mm_T → Option (Unit × mm_T)) (a0 : Nat) (a2 : Nat) (v5 : Int) : Nat → Int → Int → mm_T → Option (Unit × mm_T)
  | 0, _, _, _ => none
  | f + 1, v3, v6, M =>
    ob_ M a0 2 <| cl_ (k_Morph_sizeOf a0 v5 M) fun c30 M =>
    if c30 ≤ v6 then (
      kx58 v3 M
    ) else (
      ob_ M a0 2 <| cl_ (k_Morph_at a0 v5 v6 M) fun c43 M =>
      ob_ M a2 1 <| cl_ (k_Line_lay a2 v3 c43 M) fun _ M =>
      ck_ (v3 + 1) fun v3_49 =>
      ck_ (v6 + 1) fun v6_52 =>
      lp_Morph_draw_25 kx58 a0 a2 v5 f v3_49 v6_52 M
    )

def lp_Morph_draw_5 (kx64 : Int → mm_T → Option (Unit × mm_T)) (a0 : Nat) (a1 : Nat) (a2 : Nat) : Nat → Int → Int → mm_T → Option (Unit × mm_T)
  | 0, _, _, _ => none
  | f + 1, v3, v4, M =>
    gI_ M a1 1 4 fun x8 =>
    if x8 ≤ v4 then (
      kx64 v3 M
    ) else (
      ob_ M a1 1 <| cl_ (k_Line_at a1 v4 M) fun c17 M =>
      lt_ c17 fun v5_20 =>
      lt_ (0 : Int) fun v6_23 =>
      lp_Morph_draw_25
        (fun (v3_58 : Int) (M : mm_T) =>
          ck_ (v4 + 1) fun v4_58 =>
          lp_Morph_draw_5 kx64 a0 a1 a2 f v3_58 v4_58 M
        )
        a0 a2 v5_20 FU_ v3 v6_23 M
    )

def k_Morph_draw (a0 : Nat) (a1 : Nat) (a2 : Nat) (M : mm_T) : Option (Unit × mm_T) :=
  lt_ (0 : Int) fun v3_1 =>
  lt_ (0 : Int) fun v4_3 =>
  lp_Morph_draw_5
    (fun (v3_64 : Int) (M : mm_T) =>
      ob_ M a2 1 <| cl_ (k_Line_cutTo a2 v3_64 M) fun _ M =>
      some ((), M)
    )
    a0 a1 a2 FU_ v3_1 v4_3 M
def lp_X_image_11 (kx45 : Int → mm_T → Option ((Nat ⊕ Int) × mm_T)) (a0 : Nat) (a2 : Nat) : Nat → Int → Int → mm_T → Option ((Nat ⊕ Int) × mm_T)
  | 0, _, _, _ => none
  | f + 1, v3, v4, M =>
    gR_ M a0 10 3 fun r14 =>
    gI_ M r14 1 4 fun x17 =>
    if x17 ≤ v4 then (
      kx45 v3 M
    ) else (
      gR_ M a0 10 3 fun r26 =>
      ob_ M r26 1 <| cl_ (k_Line_at r26 v4 M) fun c31 M =>
      ob_ M a2 2 <| cl_ (k_Morph_sizeOf a2 c31 M) fun c34 M =>
      ck_ (v3 + c34) fun x37 =>
      lt_ x37 fun v3_38 =>
      ck_ (v4 + 1) fun v4_39 =>
      lp_X_image_11 kx45 a0 a2 f v3_38 v4_39 M
    )

def k_X_image (a0 : Nat) (v1 : Int) (M : mm_T) : Option ((Nat ⊕ Int) × mm_T) :=
  ob_ M a0 10 <| cx_ (k_X_mapOf a0 v1 M) (fun E M => some (.inl E, M)) fun c2 M =>
  lt_ c2 fun a2_5 =>
  lt_ (0 : Int) fun v3_7 =>
  lt_ (0 : Int) fun v4_9 =>
  lp_X_image_11
    (fun (v3_45 : Int) (M : mm_T) =>
      if v3_45 ≤ 64 then (
        gR_ M a0 10 3 fun r61 =>
        gR_ M a0 10 4 fun r65 =>
        ob_ M a2_5 2 <| cl_ (k_Morph_draw a2_5 r61 r65 M) fun _ M =>
        gR_ M a0 10 4 fun r73 =>
        ob_ M a0 10 <| cl_ (k_X_become a0 r73 M) fun _ M =>
        gR_ M a0 10 3 fun r80 =>
        gI_ M r80 1 4 fun x83 =>
        some (.inr x83, M)
      ) else (
        th_ M 2
      )
    )
    a0 a2_5 FU_ v3_7 v4_9 M
def k_X_imaged (a0 : Nat) (v1 : Int) (v2 : Int) (v3 : Int) (M : mm_T) : Option ((Nat ⊕ Int) × mm_T) :=
  ob_ M a0 10 <| cx_ (k_X_mapOf a0 v1 M) (fun E M => some (.inl E, M)) fun c2 M =>
  lt_ c2 fun a4_5 =>
  ob_ M a0 10 <| cx_ (k_X_checkLetter a0 v2 M) (fun E M => some (.inl E, M)) fun _ M =>
  if ¬ v3 = (-1) then (
    ob_ M a4_5 2 <| cl_ (k_Morph_at a4_5 v2 v3 M) fun c30 M =>
    some (.inr c30, M)
  ) else (
    ob_ M a4_5 2 <| cl_ (k_Morph_sizeOf a4_5 v2 M) fun c20 M =>
    some (.inr c20, M)
  )
def k_X_tallied (a0 : Nat) (v1 : Int) (v2 : Int) (M : mm_T) : Option (Int64 × mm_T) :=
  jn_ (fun (M : mm_T) =>
    some (0, M)
  ) fun j22 =>
  if v1 < 0 then (
    j22 M
  ) else (
    gR_ M a0 10 8 fun r6 =>
    al_ M r6 5 fun x9 =>
    if x9 ≤ v1 then (
      j22 M
    ) else (
      if v2 < 0 then (
        j22 M
      ) else (
        if v2 < 4 then (
          gR_ M a0 10 8 fun r25 =>
          aR_ M r25 5 v1 fun r29 =>
          aJ_ M r29 v2 fun x31 =>
          some (x31, M)
        ) else (
          j22 M
        )
      )
    )
  )
def lp_X_tally_80 (kx123 : Int64 → mm_T → Option (Unit × mm_T)) (a0 : Nat) (a1 : Nat) (v4 : Int) (v6 : Int) : Nat → Int64 → Int → mm_T → Option (Unit × mm_T)
  | 0, _, _, _ => none
  | f + 1, w7, v9, M =>
    if v4 ≤ 0 then (
      kx123 w7 M
    ) else (
      ob_ M a1 2 <| cl_ (k_Morph_sizeOf a1 v6 M) fun c90 M =>
      if c90 ≤ v9 then (
        kx123 w7 M
      ) else (
        ck_ (v4 - 1) fun x102 =>
        ob_ M a1 2 <| cl_ (k_Morph_at a1 v6 v9 M) fun c108 M =>
        ob_ M a0 10 <| cl_ (k_X_tallied a0 x102 c108 M) fun c111 M =>
        lt_ (w7 + c111) fun w7_115 =>
        ck_ (v9 + 1) fun v9_117 =>
        lp_X_tally_80 kx123 a0 a1 v4 v6 f w7_115 v9_117 M
      )
    )

def lp_X_tally_31 (kx136 : mm_T → Option (Unit × mm_T)) (a0 : Nat) (a1 : Nat) (v3 : Int) (v4 : Int) (a5 : Nat) : Nat → Int → mm_T → Option (Unit × mm_T)
  | 0, _, _ => none
  | f + 1, v6, M =>
    gR_ M a0 10 1 fun r34 =>
    gI_ M r34 9 2 fun x37 =>
    if x37 ≤ v6 then (
      kx136 M
    ) else (
      al_ M a5 3 fun x47 =>
      if x47 ≤ v6 then (
        kx136 M
      ) else (
        lt_ (0 : Int64) fun w7_52 =>
        jn_ (fun (w7_77 : Int64) (M : mm_T) =>
          lt_ (0 : Int) fun v9_78 =>
          lp_X_tally_80
            (fun (w7_123 : Int64) (M : mm_T) =>
              sJ_ M a5 v6 w7_123 fun M =>
              ck_ (v6 + 1) fun v6_130 =>
              lp_X_tally_31 kx136 a0 a1 v3 v4 a5 f v6_130 M
            )
            a0 a1 v4 v6 FU_ w7_77 v9_78 M
        ) fun j77 =>
        if ¬ v4 = 0 then (
          j77 w7_52 M
        ) else (
          jn_ (fun (sw0_75 : Int64) (M : mm_T) =>
            lt_ sw0_75 fun w7_75 =>
            j77 w7_75 M
          ) fun j75 =>
          jn_ (fun (M : mm_T) =>
            j75 1 M
          ) fun j70 =>
          if v3 = (-1) then (
            j70 M
          ) else (
            if ¬ v3 = v6 then (
              j75 0 M
            ) else (
              j70 M
            )
          )
        )
      )
    )

def lp_X_tally_3 (kx142 : mm_T → Option (Unit × mm_T)) (a0 : Nat) (a1 : Nat) (v2 : Int) (v3 : Int) : Nat → Int → mm_T → Option (Unit × mm_T)
  | 0, _, _ => none
  | f + 1, v4, M =>
    if v2 < v4 then (
      kx142 M
    ) else (
      gR_ M a0 10 8 fun r12 =>
      al_ M r12 5 fun x15 =>
      if x15 ≤ v4 then (
        kx142 M
      ) else (
        gR_ M a0 10 8 fun r20 =>
        aR_ M r20 5 v4 fun r25 =>
        lt_ r25 fun a5_26 =>
        lt_ (0 : Int) fun v6_29 =>
        lp_X_tally_31
          (fun (M : mm_T) =>
            ck_ (v4 + 1) fun v4_136 =>
            lp_X_tally_3 kx142 a0 a1 v2 v3 f v4_136 M
          )
          a0 a1 v3 v4 a5_26 FU_ v6_29 M
      )
    )

def k_X_tally (a0 : Nat) (a1 : Nat) (v2 : Int) (v3 : Int) (M : mm_T) : Option (Unit × mm_T) :=
  lt_ (0 : Int) fun v4_1 =>
  lp_X_tally_3
    (fun (M : mm_T) =>
      some ((), M)
    )
    a0 a1 v2 v3 FU_ v4_1 M
def k_X_length (a0 : Nat) (v1 : Int) (v2 : Int) (v3 : Int) (M : mm_T) : Option ((Nat ⊕ Int64) × mm_T) :=
  ob_ M a0 10 <| cx_ (k_X_mapOf a0 v1 M) (fun E M => some (.inl E, M)) fun c2 M =>
  lt_ c2 fun a4_5 =>
  ob_ M a0 10 <| cx_ (k_X_checkLetter a0 v2 M) (fun E M => some (.inl E, M)) fun _ M =>
  ob_ M a0 10 <| cx_ (k_X_checkRange a0 v3 0 12 M) (fun E M => some (.inl E, M)) fun _ M =>
  ob_ M a0 10 <| cl_ (k_X_tally a0 a4_5 v3 (-1) M) fun _ M =>
  ob_ M a0 10 <| cl_ (k_X_tallied a0 v3 v2 M) fun c31 M =>
  some (.inr c31, M)
def lp_X_power_69 (kx130 : Int64 → Int → mm_T → Option ((Nat ⊕ Int) × mm_T)) (a0 : Nat) (a6 : Nat) (v7 : Int) (v10 : Int) : Nat → Int64 → Int → mm_T → Option ((Nat ⊕ Int) × mm_T)
  | 0, _, _, _ => none
  | f + 1, w8, v11, M =>
    ob_ M a6 2 <| cl_ (k_Morph_sizeOf a6 v7 M) fun c75 M =>
    ck_ (c75 - 1) fun x79 =>
    if x79 ≤ v11 then (
      kx130 w8 v11 M
    ) else (
      ob_ M a6 2 <| cl_ (k_Morph_at a6 v7 v11 M) fun c94 M =>
      ob_ M a0 10 <| cl_ (k_X_tallied a0 v10 c94 M) fun c97 M =>
      if lcm_ w8 c97 < 0 then (
        kx130 w8 v11 M
      ) else (
        ob_ M a6 2 <| cl_ (k_Morph_at a6 v7 v11 M) fun c115 M =>
        ob_ M a0 10 <| cl_ (k_X_tallied a0 v10 c115 M) fun c118 M =>
        lt_ (w8 - c118) fun w8_122 =>
        ck_ (v11 + 1) fun v11_124 =>
        lp_X_power_69 kx130 a0 a6 v7 v10 f w8_122 v11_124 M
      )
    )

def lp_X_power_61 (kx147 : Int → mm_T → Option ((Nat ⊕ Int) × mm_T)) (a0 : Nat) (a6 : Nat) : Nat → Int → Int64 → Int → mm_T → Option ((Nat ⊕ Int) × mm_T)
  | 0, _, _, _, _ => none
  | f + 1, v7, w8, v10, M =>
    if v10 < 0 then (
      kx147 v7 M
    ) else (
      lt_ (0 : Int) fun v11_67 =>
      lp_X_power_69
        (fun (w8_130 : Int64) (v11_130 : Int) (M : mm_T) =>
          ob_ M a6 2 <| cl_ (k_Morph_at a6 v7 v11_130 M) fun c136 M =>
          lt_ c136 fun v7_139 =>
          ck_ (v10 + (-1)) fun v10_141 =>
          lp_X_power_61 kx147 a0 a6 f v7_139 w8_130 v10_141 M
        )
        a0 a6 v7 v10 FU_ w8 v11_67 M
    )

def k_X_power (a0 : Nat) (v1 : Int) (v2 : Int) (v3 : Int) (w4 : Int64) (M : mm_T) : Option ((Nat ⊕ Int) × mm_T) :=
  ob_ M a0 10 <| cx_ (k_X_mapOf a0 v1 M) (fun E M => some (.inl E, M)) fun c2 M =>
  lt_ c2 fun a6_5 =>
  ob_ M a0 10 <| cx_ (k_X_checkLetter a0 v2 M) (fun E M => some (.inl E, M)) fun _ M =>
  ob_ M a0 10 <| cx_ (k_X_checkRange a0 v3 0 12 M) (fun E M => some (.inl E, M)) fun _ M =>
  ob_ M a0 10 <| cl_ (k_X_tally a0 a6_5 v3 (-1) M) fun _ M =>
  if lcm_ w4 0 < 0 then (
    some (.inr (-1), M)
  ) else (
    ob_ M a0 10 <| cl_ (k_X_tallied a0 v3 v2 M) fun c40 M =>
    if lcm_ w4 c40 < 0 then (
      lt_ v2 fun v7_50 =>
      lt_ w4 fun w8_54 =>
      ck_ (v3 - 1) fun x58 =>
      lt_ x58 fun v10_59 =>
      lp_X_power_61
        (fun (v7_147 : Int) (M : mm_T) =>
          some (.inr v7_147, M)
        )
        a0 a6_5 FU_ v7_50 w8_54 v10_59 M
    ) else (
      some (.inr (-1), M)
    )
  )
def k_X_often (a0 : Nat) (v1 : Int) (v2 : Int) (v3 : Int) (v4 : Int) (M : mm_T) : Option ((Nat ⊕ Int64) × mm_T) :=
  ob_ M a0 10 <| cx_ (k_X_mapOf a0 v1 M) (fun E M => some (.inl E, M)) fun c2 M =>
  lt_ c2 fun a5_5 =>
  ob_ M a0 10 <| cx_ (k_X_checkLetter a0 v2 M) (fun E M => some (.inl E, M)) fun _ M =>
  ob_ M a0 10 <| cx_ (k_X_checkRange a0 v3 0 12 M) (fun E M => some (.inl E, M)) fun _ M =>
  ob_ M a0 10 <| cx_ (k_X_checkLetter a0 v4 M) (fun E M => some (.inl E, M)) fun _ M =>
  ob_ M a0 10 <| cl_ (k_X_tally a0 a5_5 v3 v4 M) fun _ M =>
  ob_ M a0 10 <| cl_ (k_X_tallied a0 v3 v2 M) fun c38 M =>
  some (.inr c38, M)
def lp_X_imageBreaks_39 (kx75 : mm_T → Option (Int × mm_T)) (a0 : Nat) : Nat → Int → mm_T → Option (Int × mm_T)
  | 0, _, _ => none
  | f + 1, v4, M =>
    gR_ M a0 10 4 fun r42 =>
    gI_ M r42 1 4 fun x45 =>
    if x45 ≤ v4 then (
      kx75 M
    ) else (
      gR_ M a0 10 4 fun r52 =>
      gR_ M a0 10 1 fun r56 =>
      ob_ M r52 1 <| cl_ (k_Line_isBadAt r52 r56 v4 M) fun c61 M =>
      if c61 = 0 then (
        ck_ (v4 + 1) fun v4_69 =>
        lp_X_imageBreaks_39 kx75 a0 f v4_69 M
      ) else (
        zz_ 1 (some (1, M))
      )
    )

def k_X_imageBreaks (a0 : Nat) (a1 : Nat) (a2 : Nat) (M : mm_T) : Option (Int × mm_T) :=
  gR_ M a0 10 4 fun r3 =>
  ob_ M a1 2 <| cl_ (k_Morph_draw a1 a2 r3 M) fun _ M =>
  gR_ M a0 10 4 fun r10 =>
  gI_ M r10 1 4 fun x13 =>
  gI_ M a2 1 4 fun x19 =>
  ck_ (x19 - 1) fun x23 =>
  ob_ M a2 1 <| cl_ (k_Line_at a2 x23 M) fun c24 M =>
  ob_ M a1 2 <| cl_ (k_Morph_sizeOf a1 c24 M) fun c27 M =>
  ck_ (x13 - c27) fun x30 =>
  lt_ x30 fun v3_31 =>
  lt_ (mx_ 0 v3_31) fun v4_37 =>
  lp_X_imageBreaks_39
    (fun (M : mm_T) =>
      zz_ 0 (some (0, M))
    )
    a0 FU_ v4_37 M
def lp_Line_figures_4 (kx37 : Int → mm_T → Option (Int × mm_T)) (a0 : Nat) : Nat → Int → Int → mm_T → Option (Int × mm_T)
  | 0, _, _, _ => none
  | f + 1, v1, v2, M =>
    gI_ M a0 1 4 fun x6 =>
    if x6 ≤ v2 then (
      kx37 v1 M
    ) else (
      if 6 ≤ v2 then (
        kx37 v1 M
      ) else (
        ck_ (10 * v1) fun x21 =>
        ob_ M a0 1 <| cl_ (k_Line_at a0 v2 M) fun c24 M =>
        ck_ (x21 + c24) fun x27 =>
        ck_ (x27 + 1) fun x29 =>
        lt_ x29 fun v1_30 =>
        ck_ (v2 + 1) fun v2_31 =>
        lp_Line_figures_4 kx37 a0 f v1_30 v2_31 M
      )
    )

def k_Line_figures (a0 : Nat) (M : mm_T) : Option (Int × mm_T) :=
  lt_ (0 : Int) fun v1_1 =>
  lt_ (0 : Int) fun v2_3 =>
  lp_Line_figures_4
    (fun (v1_37 : Int) (M : mm_T) =>
      some (v1_37, M)
    )
    a0 FU_ v1_1 v2_3 M
def lp_X_breaker_44 (kx99 : Int → mm_T → Option (Int × mm_T)) (a0 : Nat) (a1 : Nat) : Nat → Int → Int → mm_T → Option (Int × mm_T)
  | 0, _, _, _ => none
  | f + 1, v4, v5, M =>
    if 5000 ≤ v5 then (
      kx99 v4 M
    ) else (
      if ¬ v4 = 1 then (
        kx99 v4 M
      ) else (
        gR_ M a0 10 5 fun r61 =>
        gR_ M r61 5 0 fun r64 =>
        ob_ M a0 10 <| cl_ (k_X_imageBreaks a0 a1 r64 M) fun c67 M =>
        if c67 = 0 then (
          gR_ M a0 10 5 fun r85 =>
          ob_ M r85 5 <| cl_ (k_Search_seek r85 M) fun c88 M =>
          lt_ c88 fun v4_91 =>
          ck_ (v5 + 1) fun v5_93 =>
          lp_X_breaker_44 kx99 a0 a1 f v4_91 v5_93 M
        ) else (
          gR_ M a0 10 5 fun r74 =>
          gR_ M r74 5 0 fun r77 =>
          ob_ M r77 1 <| cl_ (k_Line_figures r77 M) fun c80 M =>
          some (c80, M)
        )
      )
    )

def lp_X_breaker_13 (kx115 : mm_T → Option (Int × mm_T)) (a0 : Nat) (a1 : Nat) (v2 : Int) : Nat → Int → mm_T → Option (Int × mm_T)
  | 0, _, _ => none
  | f + 1, v3, M =>
    if v2 < v3 then (
      kx115 M
    ) else (
      gR_ M a0 10 5 fun r19 =>
      gR_ M a0 10 3 fun r23 =>
      ob_ M r19 5 <| cl_ (k_Search_begin r19 r23 0 0 v3 M) fun _ M =>
      gR_ M a0 10 5 fun r33 =>
      ob_ M r33 5 <| cl_ (k_Search_seek r33 M) fun c36 M =>
      lt_ c36 fun v4_39 =>
      lt_ (0 : Int) fun v5_42 =>
      lp_X_breaker_44
        (fun (v4_99 : Int) (M : mm_T) =>
          if ¬ v4_99 = (-2) then (
            ck_ (v3 + 1) fun v3_109 =>
            lp_X_breaker_13 kx115 a0 a1 v2 f v3_109 M
          ) else (
            some ((-2), M)
          )
        )
        a0 a1 FU_ v4_39 v5_42 M
    )

def k_X_breaker (a0 : Nat) (a1 : Nat) (v2 : Int) (M : mm_T) : Option (Int × mm_T) :=
  gR_ M a0 10 5 fun r1 =>
  gR_ M a0 10 1 fun r5 =>
  ob_ M r1 5 <| cl_ (k_Search_reset r1 r5 M) fun _ M =>
  lt_ (1 : Int) fun v3_12 =>
  lp_X_breaker_13
    (fun (M : mm_T) =>
      some ((-1), M)
    )
    a0 a1 v2 FU_ v3_12 M
def k_X_keeps (a0 : Nat) (v1 : Int) (v2 : Int) (M : mm_T) : Option ((Nat ⊕ Int) × mm_T) :=
  ob_ M a0 10 <| cx_ (k_X_mapOf a0 v1 M) (fun E M => some (.inl E, M)) fun c2 M =>
  lt_ c2 fun a3_5 =>
  ob_ M a0 10 <| cx_ (k_X_checkRange a0 v2 1 6 M) (fun E M => some (.inl E, M)) fun _ M =>
  ob_ M a0 10 <| cl_ (k_X_breaker a0 a3_5 v2 M) fun c17 M =>
  lt_ c17 fun v4_20 =>
  if ¬ v4_20 = (-2) then (
    if ¬ v4_20 = (-1) then (
      some (.inr 0, M)
    ) else (
      some (.inr 1, M)
    )
  ) else (
    some (.inr (-2), M)
  )
def k_X_breaks (a0 : Nat) (v1 : Int) (v2 : Int) (M : mm_T) : Option ((Nat ⊕ Int) × mm_T) :=
  ob_ M a0 10 <| cx_ (k_X_mapOf a0 v1 M) (fun E M => some (.inl E, M)) fun c2 M =>
  lt_ c2 fun a3_5 =>
  ob_ M a0 10 <| cx_ (k_X_checkRange a0 v2 1 6 M) (fun E M => some (.inl E, M)) fun _ M =>
  ob_ M a0 10 <| cl_ (k_X_breaker a0 a3_5 v2 M) fun c17 M =>
  some (.inr c17, M)
def k_Morph_growsFrom (a0 : Nat) (v1 : Int) (M : mm_T) : Option (Int × mm_T) :=
  ob_ M a0 2 <| cl_ (k_Morph_sizeOf a0 v1 M) fun c2 M =>
  jn_ (fun (M : mm_T) =>
    zz_ 0 (some (0, M))
  ) fun j23 =>
  if c2 ≤ 1 then (
    j23 M
  ) else (
    ob_ M a0 2 <| cl_ (k_Morph_at a0 v1 0 M) fun c12 M =>
    if ¬ c12 = v1 then (
      j23 M
    ) else (
      zz_ 1 (some (1, M))
    )
  )
def lp_X_grows_11 (kx45 : Int → mm_T → Option ((Nat ⊕ Int) × mm_T)) (a0 : Nat) (a2 : Nat) : Nat → Int → Int → mm_T → Option ((Nat ⊕ Int) × mm_T)
  | 0, _, _, _ => none
  | f + 1, v3, v4, M =>
    gR_ M a0 10 1 fun r14 =>
    gI_ M r14 9 2 fun x17 =>
    if x17 ≤ v4 then (
      kx45 v3 M
    ) else (
      ob_ M a2 2 <| cl_ (k_Morph_growsFrom a2 v4 M) fun c26 M =>
      jn_ (fun (v3_39 : Int) (M : mm_T) =>
        ck_ (v4 + 1) fun v4_39 =>
        lp_X_grows_11 kx45 a0 a2 f v3_39 v4_39 M
      ) fun j39 =>
      if c26 = 0 then (
        j39 v3 M
      ) else (
        lt_ (or_ v3 (shl_ 1 v4)) fun v3_38 =>
        j39 v3_38 M
      )
    )

def k_X_grows (a0 : Nat) (v1 : Int) (M : mm_T) : Option ((Nat ⊕ Int) × mm_T) :=
  ob_ M a0 10 <| cx_ (k_X_mapOf a0 v1 M) (fun E M => some (.inl E, M)) fun c2 M =>
  lt_ c2 fun a2_5 =>
  lt_ (0 : Int) fun v3_7 =>
  lt_ (0 : Int) fun v4_9 =>
  lp_X_grows_11
    (fun (v3_45 : Int) (M : mm_T) =>
      some (.inr v3_45, M)
    )
    a0 a2_5 FU_ v3_7 v4_9 M
def lp_X_uniform_15 (kx45 : mm_T → Option ((Nat ⊕ Int) × mm_T)) (a0 : Nat) (a2 : Nat) (v3 : Int) : Nat → Int → mm_T → Option ((Nat ⊕ Int) × mm_T)
  | 0, _, _ => none
  | f + 1, v4, M =>
    gR_ M a0 10 1 fun r18 =>
    gI_ M r18 9 2 fun x21 =>
    if x21 ≤ v4 then (
      kx45 M
    ) else (
      ob_ M a2 2 <| cl_ (k_Morph_sizeOf a2 v4 M) fun c30 M =>
      if c30 = v3 then (
        ck_ (v4 + 1) fun v4_39 =>
        lp_X_uniform_15 kx45 a0 a2 v3 f v4_39 M
      ) else (
        some (.inr (-1), M)
      )
    )

def k_X_uniform (a0 : Nat) (v1 : Int) (M : mm_T) : Option ((Nat ⊕ Int) × mm_T) :=
  ob_ M a0 10 <| cx_ (k_X_mapOf a0 v1 M) (fun E M => some (.inl E, M)) fun c2 M =>
  lt_ c2 fun a2_5 =>
  ob_ M a2_5 2 <| cl_ (k_Morph_sizeOf a2_5 0 M) fun c8 M =>
  lt_ c8 fun v3_11 =>
  lt_ (1 : Int) fun v4_13 =>
  lp_X_uniform_15
    (fun (M : mm_T) =>
      some (.inr v3_11, M)
    )
    a0 a2_5 v3_11 FU_ v4_13 M
def lp_X_fill_84 (kx143 : mm_T → Option ((Nat ⊕ Int) × mm_T)) (a0 : Nat) (v3 : Int) (a4 : Nat) (v5 : Int) : Nat → Int → mm_T → Option ((Nat ⊕ Int) × mm_T)
  | 0, _, _ => none
  | f + 1, v6, M =>
    gR_ M a0 10 4 fun r89 =>
    ob_ M r89 1 <| cl_ (k_Line_at r89 v5 M) fun c94 M =>
    ob_ M a4 2 <| cl_ (k_Morph_sizeOf a4 c94 M) fun c97 M =>
    if c97 ≤ v6 then (
      kx143 M
    ) else (
      gR_ M a0 10 4 fun r104 =>
      gI_ M r104 1 4 fun x107 =>
      if v3 ≤ x107 then (
        kx143 M
      ) else (
        gR_ M a0 10 4 fun r115 =>
        gR_ M a0 10 4 fun r121 =>
        ob_ M r121 1 <| cl_ (k_Line_at r121 v5 M) fun c126 M =>
        ob_ M a4 2 <| cl_ (k_Morph_at a4 c126 v6 M) fun c131 M =>
        ob_ M r115 1 <| cl_ (k_Line_add r115 c131 M) fun _ M =>
        ck_ (v6 + 1) fun v6_137 =>
        lp_X_fill_84 kx143 a0 v3 a4 v5 f v6_137 M
      )
    )

def lp_X_fill_55 (kx149 : mm_T → Option ((Nat ⊕ Int) × mm_T)) (a0 : Nat) (v3 : Int) (a4 : Nat) : Nat → Int → mm_T → Option ((Nat ⊕ Int) × mm_T)
  | 0, _, _ => none
  | f + 1, v5, M =>
    if v3 ≤ v5 then (
      kx149 M
    ) else (
      gR_ M a0 10 4 fun r62 =>
      gI_ M r62 1 4 fun x65 =>
      if v3 ≤ x65 then (
        kx149 M
      ) else (
        jn_ (fun (s0_82 : Int) (M : mm_T) =>
          lt_ s0_82 fun v6_82 =>
          lp_X_fill_84
            (fun (M : mm_T) =>
              ck_ (v5 + 1) fun v5_143 =>
              lp_X_fill_55 kx149 a0 v3 a4 f v5_143 M
            )
            a0 v3 a4 v5 FU_ v6_82 M
        ) fun j82 =>
        if ¬ v5 = 0 then (
          j82 0 M
        ) else (
          j82 1 M
        )
      )
    )

def k_X_fill (a0 : Nat) (v1 : Int) (v2 : Int) (v3 : Int) (M : mm_T) : Option ((Nat ⊕ Int) × mm_T) :=
  ob_ M a0 10 <| cx_ (k_X_mapOf a0 v1 M) (fun E M => some (.inl E, M)) fun c2 M =>
  lt_ c2 fun a4_5 =>
  ob_ M a0 10 <| cx_ (k_X_checkLetter a0 v2 M) (fun E M => some (.inl E, M)) fun _ M =>
  ob_ M a0 10 <| cx_ (k_X_checkRange a0 v3 1 64 M) (fun E M => some (.inl E, M)) fun _ M =>
  ob_ M a4_5 2 <| cl_ (k_Morph_growsFrom a4_5 v2 M) fun c23 M =>
  if ¬ c23 = 0 then (
    gR_ M a0 10 4 fun r38 =>
    ob_ M r38 1 <| cl_ (k_Line_clear r38 M) fun _ M =>
    gR_ M a0 10 4 fun r45 =>
    ob_ M r45 1 <| cl_ (k_Line_add r45 v2 M) fun _ M =>
    lt_ (0 : Int) fun v5_53 =>
    lp_X_fill_55
      (fun (M : mm_T) =>
        gR_ M a0 10 4 fun r151 =>
        ob_ M a0 10 <| cl_ (k_X_become a0 r151 M) fun _ M =>
        gR_ M a0 10 3 fun r158 =>
        gR_ M a0 10 1 fun r162 =>
        ob_ M r158 1 <| cl_ (k_Line_firstBad r158 r162 M) fun c165 M =>
        some (.inr c165, M)
      )
      a0 v3 a4_5 FU_ v5_53 M
  ) else (
    th_ M 2
  )
def lp_Morph_standsAt_3 (kx39 : mm_T → Option (Int × mm_T)) (a0 : Nat) (a1 : Nat) (v2 : Int) (v3 : Int) : Nat → Int → mm_T → Option (Int × mm_T)
  | 0, _, _ => none
  | f + 1, v4, M =>
    ob_ M a0 2 <| cl_ (k_Morph_sizeOf a0 v3 M) fun c7 M =>
    if c7 ≤ v4 then (
      kx39 M
    ) else (
      ck_ (v2 + v4) fun x17 =>
      ob_ M a1 1 <| cl_ (k_Line_at a1 x17 M) fun c18 M =>
      ob_ M a0 2 <| cl_ (k_Morph_at a0 v3 v4 M) fun c25 M =>
      if c18 = c25 then (
        ck_ (v4 + 1) fun v4_33 =>
        lp_Morph_standsAt_3 kx39 a0 a1 v2 v3 f v4_33 M
      ) else (
        zz_ 0 (some (0, M))
      )
    )

def k_Morph_standsAt (a0 : Nat) (a1 : Nat) (v2 : Int) (v3 : Int) (M : mm_T) : Option (Int × mm_T) :=
  lt_ (0 : Int) fun v4_1 =>
  lp_Morph_standsAt_3
    (fun (M : mm_T) =>
      zz_ 1 (some (1, M))
    )
    a0 a1 v2 v3 FU_ v4_1 M
def lp_X_sources_41 (kx107 : Int64 → mm_T → Option ((Nat ⊕ Int64) × mm_T)) (a0 : Nat) (a2 : Nat) (v3 : Int) : Nat → Int64 → Int → mm_T → Option ((Nat ⊕ Int64) × mm_T)
  | 0, _, _, _ => none
  | f + 1, w4, v6, M =>
    gR_ M a0 10 1 fun r44 =>
    gI_ M r44 9 2 fun x47 =>
    if x47 ≤ v6 then (
      kx107 w4 M
    ) else (
      ob_ M a2 2 <| cl_ (k_Morph_sizeOf a2 v6 M) fun c57 M =>
      ck_ (v3 - c57) fun x60 =>
      lt_ x60 fun v7_61 =>
      jn_ (fun (w4_101 : Int64) (M : mm_T) =>
        ck_ (v6 + 1) fun v6_101 =>
        lp_X_sources_41 kx107 a0 a2 v3 f w4_101 v6_101 M
      ) fun j101 =>
      if v7_61 < 0 then (
        j101 w4 M
      ) else (
        if v3 ≤ v7_61 then (
          j101 w4 M
        ) else (
          gR_ M a0 10 3 fun r76 =>
          ob_ M a2 2 <| cl_ (k_Morph_standsAt a2 r76 v7_61 v6 M) fun c83 M =>
          if c83 = 0 then (
            j101 w4 M
          ) else (
            gR_ M a0 10 9 fun r92 =>
            aJ_ M r92 v7_61 fun x97 =>
            lt_ (w4 + x97) fun w4_99 =>
            j101 w4_99 M
          )
        )
      )
    )

def lp_X_sources_15 (kx121 : mm_T → Option ((Nat ⊕ Int64) × mm_T)) (a0 : Nat) (a2 : Nat) : Nat → Int → mm_T → Option ((Nat ⊕ Int64) × mm_T)
  | 0, _, _ => none
  | f + 1, v3, M =>
    gR_ M a0 10 3 fun r17 =>
    gI_ M r17 1 4 fun x20 =>
    if x20 < v3 then (
      kx121 M
    ) else (
      gR_ M a0 10 9 fun r28 =>
      al_ M r28 3 fun x31 =>
      if x31 ≤ v3 then (
        kx121 M
      ) else (
        lt_ (0 : Int64) fun w4_36 =>
        lt_ (0 : Int) fun v6_39 =>
        lp_X_sources_41
          (fun (w4_107 : Int64) (M : mm_T) =>
            gR_ M a0 10 9 fun r108 =>
            sJ_ M r108 v3 w4_107 fun M =>
            ck_ (v3 + 1) fun v3_115 =>
            lp_X_sources_15 kx121 a0 a2 f v3_115 M
          )
          a0 a2 v3 FU_ w4_36 v6_39 M
      )
    )

def k_X_sources (a0 : Nat) (v1 : Int) (M : mm_T) : Option ((Nat ⊕ Int64) × mm_T) :=
  ob_ M a0 10 <| cx_ (k_X_mapOf a0 v1 M) (fun E M => some (.inl E, M)) fun c2 M =>
  lt_ c2 fun a2_5 =>
  gR_ M a0 10 9 fun r7 =>
  sJ_ M r7 0 1 fun M =>
  lt_ (1 : Int) fun v3_14 =>
  lp_X_sources_15
    (fun (M : mm_T) =>
      gR_ M a0 10 3 fun r122 =>
      gI_ M r122 1 4 fun x125 =>
      lt_ x125 fun v3_128 =>
      gR_ M a0 10 9 fun r131 =>
      al_ M r131 3 fun x134 =>
      if x134 ≤ v3_128 then (
        some (.inr 0, M)
      ) else (
        gR_ M a0 10 9 fun r139 =>
        aJ_ M r139 v3_128 fun x143 =>
        some (.inr x143, M)
      )
    )
    a0 a2_5 FU_ v3_14 M
def lp_Morph_agrees_3 (kx52 : mm_T → Option (Int × mm_T)) (a0 : Nat) (v1 : Int) (v2 : Int) (v3 : Int) : Nat → Int → mm_T → Option (Int × mm_T)
  | 0, _, _ => none
  | f + 1, v4, M =>
    ck_ (v2 + v4) fun x6 =>
    ob_ M a0 2 <| cl_ (k_Morph_sizeOf a0 v1 M) fun c9 M =>
    if c9 ≤ x6 then (
      kx52 M
    ) else (
      ob_ M a0 2 <| cl_ (k_Morph_sizeOf a0 v3 M) fun c19 M =>
      if c19 ≤ v4 then (
        kx52 M
      ) else (
        ck_ (v2 + v4) fun x30 =>
        ob_ M a0 2 <| cl_ (k_Morph_at a0 v1 x30 M) fun c31 M =>
        ob_ M a0 2 <| cl_ (k_Morph_at a0 v3 v4 M) fun c38 M =>
        if c31 = c38 then (
          ck_ (v4 + 1) fun v4_46 =>
          lp_Morph_agrees_3 kx52 a0 v1 v2 v3 f v4_46 M
        ) else (
          zz_ 0 (some (0, M))
        )
      )
    )

def k_Morph_agrees (a0 : Nat) (v1 : Int) (v2 : Int) (v3 : Int) (M : mm_T) : Option (Int × mm_T) :=
  lt_ (0 : Int) fun v4_1 =>
  lp_Morph_agrees_3
    (fun (M : mm_T) =>
      zz_ 1 (some (1, M))
    )
    a0 v1 v2 v3 FU_ v4_1 M
def k_Morph_restBit (a0 : Nat) (v1 : Int) (v2 : Int) (M : mm_T) : Option (Int64 × mm_T) :=
  ck_ (v1 * 6) fun x5 =>
  ck_ (1 + x5) fun x6 =>
  ck_ (x6 + v2) fun x8 =>
  some (lshl_ 1 x8, M)
def k_Morph_restBehind (a0 : Nat) (v1 : Int) (v2 : Int) (v3 : Int) (M : mm_T) : Option (Int64 × mm_T) :=
  ob_ M a0 2 <| cl_ (k_Morph_sizeOf a0 v1 M) fun c2 M =>
  ck_ (c2 - v2) fun x6 =>
  lt_ x6 fun v4_7 =>
  ob_ M a0 2 <| cl_ (k_Morph_sizeOf a0 v3 M) fun c13 M =>
  if ¬ v4_7 = c13 then (
    ob_ M a0 2 <| cl_ (k_Morph_sizeOf a0 v3 M) fun c25 M =>
    if v4_7 ≤ c25 then (
      ob_ M a0 2 <| cl_ (k_Morph_restBit a0 v3 v4_7 M) fun c50 M =>
      some (c50, M)
    ) else (
      ob_ M a0 2 <| cl_ (k_Morph_sizeOf a0 v3 M) fun c36 M =>
      ck_ (v2 + c36) fun x39 =>
      ob_ M a0 2 <| cl_ (k_Morph_restBit a0 v1 x39 M) fun c40 M =>
      some (c40, M)
    )
  ) else (
    some (1, M)
  )
def lp_Morph_restsBehind_6 (kx42 : Int64 → mm_T → Option (Int64 × mm_T)) (a0 : Nat) (v1 : Int) (v2 : Int) (v3 : Int) : Nat → Int64 → Int → mm_T → Option (Int64 × mm_T)
  | 0, _, _, _ => none
  | f + 1, w4, v6, M =>
    if v3 ≤ v6 then (
      kx42 w4 M
    ) else (
      ob_ M a0 2 <| cl_ (k_Morph_agrees a0 v1 v2 v6 M) fun c17 M =>
      jn_ (fun (w4_36 : Int64) (M : mm_T) =>
        ck_ (v6 + 1) fun v6_36 =>
        lp_Morph_restsBehind_6 kx42 a0 v1 v2 v3 f w4_36 v6_36 M
      ) fun j36 =>
      if c17 = 0 then (
        j36 w4 M
      ) else (
        ob_ M a0 2 <| cl_ (k_Morph_restBehind a0 v1 v2 v6 M) fun c30 M =>
        lt_ (w4 ||| c30) fun w4_34 =>
        j36 w4_34 M
      )
    )

def k_Morph_restsBehind (a0 : Nat) (v1 : Int) (v2 : Int) (v3 : Int) (M : mm_T) : Option (Int64 × mm_T) :=
  lt_ (0 : Int64) fun w4_1 =>
  lt_ (0 : Int) fun v6_4 =>
  lp_Morph_restsBehind_6
    (fun (w4_42 : Int64) (M : mm_T) =>
      some (w4_42, M)
    )
    a0 v1 v2 v3 FU_ w4_1 v6_4 M
def lp_Morph_isCode_14 (kx57 : Int64 → mm_T → Option (Int × mm_T)) (a0 : Nat) (v1 : Int) (v4 : Int) : Nat → Int64 → Int → mm_T → Option (Int × mm_T)
  | 0, _, _, _ => none
  | f + 1, w2, v5, M =>
    if v1 ≤ v5 then (
      kx57 w2 M
    ) else (
      jn_ (fun (w2_51 : Int64) (M : mm_T) =>
        ck_ (v5 + 1) fun v5_51 =>
        lp_Morph_isCode_14 kx57 a0 v1 v4 f w2_51 v5_51 M
      ) fun j51 =>
      if v4 = v5 then (
        j51 w2 M
      ) else (
        ob_ M a0 2 <| cl_ (k_Morph_agrees a0 v4 0 v5 M) fun c33 M =>
        if c33 = 0 then (
          j51 w2 M
        ) else (
          ob_ M a0 2 <| cl_ (k_Morph_restBehind a0 v4 0 v5 M) fun c46 M =>
          lt_ (w2 ||| c46) fun w2_50 =>
          j51 w2_50 M
        )
      )
    )

def lp_Morph_isCode_5 (kx63 : Int64 → mm_T → Option (Int × mm_T)) (a0 : Nat) (v1 : Int) : Nat → Int64 → Int → mm_T → Option (Int × mm_T)
  | 0, _, _, _ => none
  | f + 1, w2, v4, M =>
    if v1 ≤ v4 then (
      kx63 w2 M
    ) else (
      lt_ (0 : Int) fun v5_12 =>
      lp_Morph_isCode_14
        (fun (w2_57 : Int64) (M : mm_T) =>
          ck_ (v4 + 1) fun v4_57 =>
          lp_Morph_isCode_5 kx63 a0 v1 f w2_57 v4_57 M
        )
        a0 v1 v4 FU_ w2 v5_12 M
    )

def lp_Morph_isCode_93 (kx137 : Int64 → mm_T → Option (Int × mm_T)) (a0 : Nat) (v1 : Int) (v5 : Int) : Nat → Int64 → Int → mm_T → Option (Int × mm_T)
  | 0, _, _, _ => none
  | f + 1, w2, v6, M =>
    ob_ M a0 2 <| cl_ (k_Morph_sizeOf a0 v5 M) fun c98 M =>
    if c98 ≤ v6 then (
      kx137 w2 M
    ) else (
      ob_ M a0 2 <| cl_ (k_Morph_restBit a0 v5 v6 M) fun c110 M =>
      jn_ (fun (w2_131 : Int64) (M : mm_T) =>
        ck_ (v6 + 1) fun v6_131 =>
        lp_Morph_isCode_93 kx137 a0 v1 v5 f w2_131 v6_131 M
      ) fun j131 =>
      if lcm_ (w2 &&& c110) 0 = 0 then (
        j131 w2 M
      ) else (
        ob_ M a0 2 <| cl_ (k_Morph_restsBehind a0 v5 v6 v1 M) fun c126 M =>
        lt_ (w2 ||| c126) fun w2_130 =>
        j131 w2_130 M
      )
    )

def lp_Morph_isCode_84 (kx143 : Int64 → mm_T → Option (Int × mm_T)) (a0 : Nat) (v1 : Int) : Nat → Int64 → Int → mm_T → Option (Int × mm_T)
  | 0, _, _, _ => none
  | f + 1, w2, v5, M =>
    if v1 ≤ v5 then (
      kx143 w2 M
    ) else (
      lt_ (1 : Int) fun v6_91 =>
      lp_Morph_isCode_93
        (fun (w2_137 : Int64) (M : mm_T) =>
          ck_ (v5 + 1) fun v5_137 =>
          lp_Morph_isCode_84 kx143 a0 v1 f w2_137 v5_137 M
        )
        a0 v1 v5 FU_ w2 v6_91 M
    )

def lp_Morph_isCode_66 (kx149 : Int64 → mm_T → Option (Int × mm_T)) (a0 : Nat) (v1 : Int) : Nat → Int64 → Int → mm_T → Option (Int × mm_T)
  | 0, _, _, _ => none
  | f + 1, w2, v4, M =>
    if 24 ≤ v4 then (
      kx149 w2 M
    ) else (
      if ¬ lcm_ (w2 &&& 1) 0 = 0 then (
        kx149 w2 M
      ) else (
        lt_ (0 : Int) fun v5_82 =>
        lp_Morph_isCode_84
          (fun (w2_143 : Int64) (M : mm_T) =>
            ck_ (v4 + 1) fun v4_143 =>
            lp_Morph_isCode_66 kx149 a0 v1 f w2_143 v4_143 M
          )
          a0 v1 FU_ w2 v5_82 M
      )
    )

def k_Morph_isCode (a0 : Nat) (v1 : Int) (M : mm_T) : Option (Int × mm_T) :=
  lt_ (0 : Int64) fun w2_1 =>
  lt_ (0 : Int) fun v4_3 =>
  lp_Morph_isCode_5
    (fun (w2_63 : Int64) (M : mm_T) =>
      lt_ (0 : Int) fun v4_64 =>
      lp_Morph_isCode_66
        (fun (w2_149 : Int64) (M : mm_T) =>
          if ¬ lcm_ (w2_149 &&& 1) 0 = 0 then (
            zz_ 0 (some (0, M))
          ) else (
            zz_ 1 (some (1, M))
          )
        )
        a0 v1 FU_ w2_63 v4_64 M
    )
    a0 v1 FU_ w2_1 v4_3 M
def k_X_code (a0 : Nat) (v1 : Int) (M : mm_T) : Option ((Nat ⊕ Int) × mm_T) :=
  ob_ M a0 10 <| cx_ (k_X_mapOf a0 v1 M) (fun E M => some (.inl E, M)) fun c2 M =>
  gR_ M a0 10 1 fun r6 =>
  gI_ M r6 9 2 fun x9 =>
  ob_ M c2 2 <| cl_ (k_Morph_isCode c2 x9 M) fun c12 M =>
  zz_ c12 (some (.inr c12, M))
def lp_Told_avoidedCount_4 (kx38 : Int → mm_T → Option (Int × mm_T)) (a0 : Nat) : Nat → Int → Int → mm_T → Option (Int × mm_T)
  | 0, _, _, _ => none
  | f + 1, v1, v2, M =>
    gI_ M a0 9 7 fun x6 =>
    if x6 ≤ v2 then (
      kx38 v1 M
    ) else (
      ob_ M a0 9 <| cl_ (k_Told_shapeAt a0 v2 M) fun c14 M =>
      lt_ c14 fun a3_17 =>
      jn_ (fun (v1_32 : Int) (M : mm_T) =>
        ck_ (v2 + 1) fun v2_32 =>
        lp_Told_avoidedCount_4 kx38 a0 f v1_32 v2_32 M
      ) fun j32 =>
      nn_ a3_17 (
        j32 v1 M
      ) (
        gI_ M a3_17 6 4 fun x23 =>
        if x23 = 0 then (
          j32 v1 M
        ) else (
          ck_ (v1 + 1) fun v1_29 =>
          j32 v1_29 M
        )
      )
    )

def k_Told_avoidedCount (a0 : Nat) (M : mm_T) : Option (Int × mm_T) :=
  lt_ (0 : Int) fun v1_1 =>
  lt_ (0 : Int) fun v2_3 =>
  lp_Told_avoidedCount_4
    (fun (v1_38 : Int) (M : mm_T) =>
      some (v1_38, M)
    )
    a0 FU_ v1_1 v2_3 M
def k_X_count (a0 : Nat) (v1 : Int) (M : mm_T) : Option (Int × mm_T) :=
  sw_ v1 0 9 (
    some ((-1), M)
  ) fun i => match i with
    | 0 =>
      gR_ M a0 10 1 fun r53 =>
      gI_ M r53 9 2 fun x56 =>
      some (x56, M)
    | 1 =>
      gR_ M a0 10 1 fun r61 =>
      gI_ M r61 9 6 fun x64 =>
      some (x64, M)
    | 2 =>
      gR_ M a0 10 1 fun r69 =>
      gI_ M r69 9 7 fun x72 =>
      some (x72, M)
    | 3 =>
      gR_ M a0 10 1 fun r77 =>
      ob_ M r77 9 <| cl_ (k_Told_avoidedCount r77 M) fun c80 M =>
      some (c80, M)
    | 4 =>
      gR_ M a0 10 3 fun r85 =>
      gI_ M r85 1 4 fun x88 =>
      some (x88, M)
    | 5 =>
      gR_ M a0 10 7 fun r93 =>
      gI_ M r93 0 3 fun x96 =>
      some (x96, M)
    | 6 =>
      gR_ M a0 10 1 fun r101 =>
      gI_ M r101 9 4 fun x104 =>
      some (x104, M)
    | 7 =>
      gR_ M a0 10 1 fun r109 =>
      gI_ M r109 9 5 fun x112 =>
      some (x112, M)
    | 8 =>
      gR_ M a0 10 1 fun r117 =>
      gI_ M r117 9 3 fun x120 =>
      some (x120, M)
    | _ => none
def k_M_thrown (a0 : Nat) (M : mm_T) : Option (Int × mm_T) :=
  gI_ M a0 11 0 fun x1 =>
  some (x1, M)
def k_M_throwsIf (a0 : Nat) (v1 : Int) (v2 : Int) (M : mm_T) : Option (Int × mm_T) :=
  if v1 = 0 then (
    zz_ v1 (some (v1, M))
  ) else (
    pI_ M a0 11 0 v2 fun M =>
    zz_ v1 (some (v1, M))
  )
def k_M_in (v0 : Int) (v1 : Int) (v2 : Int) (M : mm_T) : Option (Int × mm_T) :=
  jn_ (fun (M : mm_T) =>
    zz_ 0 (some (0, M))
  ) fun j14 =>
  if v0 < v1 then (
    j14 M
  ) else (
    if v2 < v0 then (
      j14 M
    ) else (
      zz_ 1 (some (1, M))
    )
  )
def lp_M_feed_60 (kx106 : mm_T → Option (Int × mm_T)) (a0 : Nat) : Nat → Int → mm_T → Option (Int × mm_T)
  | 0, _, _ => none
  | f + 1, v6, M =>
    if 20 ≤ v6 then (
      kx106 M
    ) else (
      gR_ M a0 11 1 fun r68 =>
      gI_ M a0 11 2 fun x72 =>
      ck_ (x72 + v6) fun x77 =>
      gR_ M a0 11 3 fun r79 =>
      dv_ v6 4 fun x85 =>
      aI_ M r79 0 x85 fun x86 =>
      rm_ v6 4 fun x94 =>
      ck_ (8 * x94) fun x95 =>
      ck_ (24 - x95) fun x96 =>
      sB_ M r68 x77 (i2b_ (shr_ x86 x96)) fun M =>
      ck_ (v6 + 1) fun v6_100 =>
      lp_M_feed_60 kx106 a0 f v6_100 M
    )

def k_M_feed (a0 : Nat) (v1 : Int) (v2 : Int) (v3 : Int) (v4 : Int) (v5 : Int) (M : mm_T) : Option (Int × mm_T) :=
  pI_ M a0 11 0 0 fun M =>
  gI_ M a0 11 2 fun x6 =>
  ck_ (x6 + 20) fun x11 =>
  if x11 ≤ 400 then (
    gR_ M a0 11 3 fun r21 =>
    sI_ M r21 0 v1 fun M =>
    gR_ M a0 11 3 fun r28 =>
    sI_ M r28 1 v2 fun M =>
    gR_ M a0 11 3 fun r35 =>
    sI_ M r35 2 v3 fun M =>
    gR_ M a0 11 3 fun r42 =>
    sI_ M r42 3 v4 fun M =>
    gR_ M a0 11 3 fun r50 =>
    sI_ M r50 4 v5 fun M =>
    lt_ (0 : Int) fun v6_58 =>
    lp_M_feed_60
      (fun (M : mm_T) =>
        gI_ M a0 11 2 fun x108 =>
        ck_ (x108 + 20) fun x113 =>
        pI_ M a0 11 2 x113 fun M =>
        gI_ M a0 11 2 fun x118 =>
        some (x118, M)
      )
      a0 FU_ v6_58 M
  ) else (
    some ((-1), M)
  )
def k_M_end (a0 : Nat) (v1 : Int) (M : mm_T) : Option (Int × mm_T) :=
  pI_ M a0 11 0 0 fun M =>
  if v1 < 0 then (
    zz_ 0 (some (0, M))
  ) else (
    gI_ M a0 11 2 fun x11 =>
    if v1 ≤ x11 then (
      pI_ M a0 11 2 v1 fun M =>
      zz_ 1 (some (1, M))
    ) else (
      zz_ 0 (some (0, M))
    )
  )
def k_M_begins (a0 : Nat) (M : mm_T) : Option (Unit × mm_T) :=
  gI_ M a0 11 2 fun x2 =>
  pI_ M a0 11 6 x2 fun M =>
  pI_ M a0 11 2 0 fun M =>
  pI_ M a0 11 4 0 fun M =>
  pI_ M a0 11 7 (-1) fun M =>
  some ((), M)
def k_M_hasFailed (a0 : Nat) (M : mm_T) : Option (Int × mm_T) :=
  gI_ M a0 11 7 fun x1 =>
  if x1 = (-1) then (
    zz_ 0 (some (0, M))
  ) else (
    zz_ 1 (some (1, M))
  )
def k_M_isAt (a0 : Nat) (v1 : Int) (v2 : Int) (M : mm_T) : Option (Int × mm_T) :=
  gI_ M a0 11 4 fun x1 =>
  gI_ M a0 11 6 fun x5 =>
  jn_ (fun (M : mm_T) =>
    zz_ 0 (some (0, M))
  ) fun j41 =>
  if x5 ≤ x1 then (
    j41 M
  ) else (
    gR_ M a0 11 1 fun r12 =>
    gI_ M a0 11 4 fun x16 =>
    aI_ M r12 1 x16 fun x19 =>
    if x19 < v1 then (
      j41 M
    ) else (
      gR_ M a0 11 1 fun r25 =>
      gI_ M a0 11 4 fun x29 =>
      aI_ M r25 1 x29 fun x32 =>
      if v2 < x32 then (
        j41 M
      ) else (
        zz_ 1 (some (1, M))
      )
    )
  )
def lp_M_blanks_0 (kx35 : mm_T → Option (Unit × mm_T)) (a0 : Nat) : Nat → mm_T → Option (Unit × mm_T)
  | 0, _ => none
  | f + 1, M =>
    ob_ M a0 11 <| cl_ (k_M_isAt a0 9 10 M) fun c5 M =>
    jn_ (fun (M : mm_T) =>
      gI_ M a0 11 4 fun x24 =>
      ck_ (x24 + 1) fun x28 =>
      pI_ M a0 11 4 x28 fun M =>
      lp_M_blanks_0 kx35 a0 f M
    ) fun j22 =>
    if ¬ c5 = 0 then (
      j22 M
    ) else (
      ob_ M a0 11 <| cl_ (k_M_isAt a0 32 32 M) fun c16 M =>
      if c16 = 0 then (
        kx35 M
      ) else (
        j22 M
      )
    )

def k_M_blanks (a0 : Nat) (M : mm_T) : Option (Unit × mm_T) :=
  lp_M_blanks_0
    (fun (M : mm_T) =>
      gI_ M a0 11 4 fun x37 =>
      pI_ M a0 11 5 x37 fun M =>
      some ((), M)
    )
    a0 FU_ M
def k_M_fails (a0 : Nat) (M : mm_T) : Option (Unit × mm_T) :=
  gI_ M a0 11 7 fun x1 =>
  if ¬ x1 = (-1) then (
    some ((), M)
  ) else (
    gI_ M a0 11 5 fun x10 =>
    pI_ M a0 11 7 x10 fun M =>
    some ((), M)
  )
def k_M_asksSign (a0 : Nat) (v1 : Int) (M : mm_T) : Option (Unit × mm_T) :=
  ob_ M a0 11 <| cl_ (k_M_blanks a0 M) fun _ M =>
  ob_ M a0 11 <| cl_ (k_M_hasFailed a0 M) fun c5 M =>
  if c5 = 0 then (
    ob_ M a0 11 <| cl_ (k_M_isAt a0 v1 v1 M) fun c15 M =>
    if c15 = 0 then (
      ob_ M a0 11 <| cl_ (k_M_fails a0 M) fun _ M =>
      some ((), M)
    ) else (
      gI_ M a0 11 4 fun x23 =>
      ck_ (x23 + 1) fun x27 =>
      pI_ M a0 11 4 x27 fun M =>
      some ((), M)
    )
  ) else (
    some ((), M)
  )
def lp_M_wordMany_9 (kx45 : Int → mm_T → Option (Int × mm_T)) (a0 : Nat) : Nat → Int → mm_T → Option (Int × mm_T)
  | 0, _, _ => none
  | f + 1, v1, M =>
    gI_ M a0 11 6 fun x11 =>
    if x11 ≤ v1 then (
      kx45 v1 M
    ) else (
      gR_ M a0 11 1 fun r18 =>
      aI_ M r18 1 v1 fun x22 =>
      if x22 < 97 then (
        kx45 v1 M
      ) else (
        gR_ M a0 11 1 fun r29 =>
        aI_ M r29 1 v1 fun x33 =>
        if 122 < x33 then (
          kx45 v1 M
        ) else (
          ck_ (v1 + 1) fun v1_39 =>
          lp_M_wordMany_9 kx45 a0 f v1_39 M
        )
      )
    )

def k_M_wordMany (a0 : Nat) (M : mm_T) : Option (Int × mm_T) :=
  ob_ M a0 11 <| cl_ (k_M_blanks a0 M) fun _ M =>
  gI_ M a0 11 4 fun x5 =>
  lt_ x5 fun v1_8 =>
  lp_M_wordMany_9
    (fun (v1_45 : Int) (M : mm_T) =>
      gI_ M a0 11 4 fun x47 =>
      ck_ (v1_45 - x47) fun x50 =>
      some (x50, M)
    )
    a0 FU_ v1_8 M
def lp_M_isWord_26 (kx69 : Int → mm_T → Option (Int × mm_T)) (a0 : Nat) (a1 : Nat) : Nat → Int → Int → mm_T → Option (Int × mm_T)
  | 0, _, _, _ => none
  | f + 1, v2, v3, M =>
    if v2 = 0 then (
      kx69 v2 M
    ) else (
      tl_ a1 fun x32 =>
      if x32 ≤ v3 then (
        kx69 v2 M
      ) else (
        gR_ M a0 11 1 fun r39 =>
        gI_ M a0 11 4 fun x43 =>
        ck_ (x43 + v3) fun x47 =>
        aI_ M r39 1 x47 fun x48 =>
        tc_ a1 v3 fun x51 =>
        jn_ (fun (s0_62 : Int) (M : mm_T) =>
          lt_ s0_62 fun v2_62 =>
          ck_ (v3 + 1) fun v3_63 =>
          lp_M_isWord_26 kx69 a0 a1 f v2_62 v3_63 M
        ) fun j62 =>
        if ¬ x48 = x51 then (
          j62 0 M
        ) else (
          j62 1 M
        )
      )
    )

def k_M_isWord (a0 : Nat) (a1 : Nat) (M : mm_T) : Option (Int × mm_T) :=
  ob_ M a0 11 <| cl_ (k_M_hasFailed a0 M) fun c1 M =>
  jn_ (fun (s0_23 : Int) (M : mm_T) =>
    lt_ s0_23 fun v2_23 =>
    lt_ (0 : Int) fun v3_25 =>
    lp_M_isWord_26
      (fun (v2_69 : Int) (M : mm_T) =>
        zz_ v2_69 (some (v2_69, M))
      )
      a0 a1 FU_ v2_23 v3_25 M
  ) fun j23 =>
  jn_ (fun (M : mm_T) =>
    j23 0 M
  ) fun j22 =>
  if ¬ c1 = 0 then (
    j22 M
  ) else (
    ob_ M a0 11 <| cl_ (k_M_wordMany a0 M) fun c8 M =>
    tl_ a1 fun x12 =>
    if ¬ c8 = x12 then (
      j22 M
    ) else (
      j23 1 M
    )
  )
def k_M_takesWord (a0 : Nat) (a1 : Nat) (M : mm_T) : Option (Int × mm_T) :=
  ob_ M a0 11 <| cl_ (k_M_isWord a0 a1 M) fun c2 M =>
  lt_ c2 fun v2_5 =>
  if v2_5 = 0 then (
    zz_ v2_5 (some (v2_5, M))
  ) else (
    gI_ M a0 11 4 fun x12 =>
    tl_ a1 fun x16 =>
    ck_ (x12 + x16) fun x19 =>
    pI_ M a0 11 4 x19 fun M =>
    zz_ v2_5 (some (v2_5, M))
  )
def k_M_asksWord (a0 : Nat) (a1 : Nat) (M : mm_T) : Option (Unit × mm_T) :=
  ob_ M a0 11 <| cl_ (k_M_hasFailed a0 M) fun c1 M =>
  if ¬ c1 = 0 then (
    some ((), M)
  ) else (
    ob_ M a0 11 <| cl_ (k_M_takesWord a0 a1 M) fun c9 M =>
    if ¬ c9 = 0 then (
      some ((), M)
    ) else (
      ob_ M a0 11 <| cl_ (k_M_fails a0 M) fun _ M =>
      some ((), M)
    )
  )
def lp_M_number_15 (kx70 : Int → mm_T → Option (Int × mm_T)) (a0 : Nat) : Nat → Int → mm_T → Option (Int × mm_T)
  | 0, _, _ => none
  | f + 1, v3, M =>
    ob_ M a0 11 <| cl_ (k_M_isAt a0 48 57 M) fun c20 M =>
    if c20 = 0 then (
      kx70 v3 M
    ) else (
      gI_ M a0 11 4 fun x27 =>
      gI_ M a0 11 5 fun x31 =>
      ck_ (x27 - x31) fun x34 =>
      jn_ (fun (v3_57 : Int) (M : mm_T) =>
        gI_ M a0 11 4 fun x59 =>
        ck_ (x59 + 1) fun x63 =>
        pI_ M a0 11 4 x63 fun M =>
        lp_M_number_15 kx70 a0 f v3_57 M
      ) fun j57 =>
      if 2 ≤ x34 then (
        j57 v3 M
      ) else (
        ck_ (10 * v3) fun x42 =>
        gR_ M a0 11 1 fun r44 =>
        gI_ M a0 11 4 fun x48 =>
        aI_ M r44 1 x48 fun x51 =>
        ck_ (x42 + x51) fun x52 =>
        ck_ (x52 - 48) fun x55 =>
        lt_ x55 fun v3_56 =>
        j57 v3_56 M
      )
    )

def k_M_number (a0 : Nat) (v1 : Int) (v2 : Int) (M : mm_T) : Option (Int × mm_T) :=
  ob_ M a0 11 <| cl_ (k_M_hasFailed a0 M) fun c1 M =>
  if c1 = 0 then (
    ob_ M a0 11 <| cl_ (k_M_blanks a0 M) fun _ M =>
    lt_ (0 : Int) fun v3_14 =>
    lp_M_number_15
      (fun (v3_70 : Int) (M : mm_T) =>
        gI_ M a0 11 4 fun x71 =>
        gI_ M a0 11 5 fun x75 =>
        ck_ (x71 - x75) fun x78 =>
        lt_ x78 fun v4_79 =>
        jn_ (fun (M : mm_T) =>
          ob_ M a0 11 <| cl_ (k_M_fails a0 M) fun _ M =>
          some (v3_70, M)
        ) fun j101 =>
        if v4_79 = 0 then (
          j101 M
        ) else (
          if 2 < v4_79 then (
            j101 M
          ) else (
            cl_ (k_M_in v3_70 v1 v2 M) fun c95 M =>
            if ¬ c95 = 0 then (
              some (v3_70, M)
            ) else (
              j101 M
            )
          )
        )
      )
      a0 FU_ v3_14 M
  ) else (
    some (v1, M)
  )
def lp_M_letters_28 (kx69 : Int → mm_T → Option (Int × mm_T)) (a0 : Nat) (v1 : Int) (v2 : Int) (v5 : Int) : Nat → Int → Int → mm_T → Option (Int × mm_T)
  | 0, _, _, _ => none
  | f + 1, v6, v7, M =>
    if v6 = 0 then (
      kx69 v6 M
    ) else (
      if v5 ≤ v7 then (
        kx69 v6 M
      ) else (
        gR_ M a0 11 1 fun r41 =>
        gI_ M a0 11 4 fun x45 =>
        ck_ (x45 + v7) fun x50 =>
        aI_ M r41 1 x50 fun x51 =>
        ck_ (v1 + v2) fun x55 =>
        ck_ (x55 - 1) fun x57 =>
        cl_ (k_M_in x51 v1 x57 M) fun c58 M =>
        lt_ c58 fun v6_61 =>
        ck_ (v7 + 1) fun v7_63 =>
        lp_M_letters_28 kx69 a0 v1 v2 v5 f v6_61 v7_63 M
      )
    )

def lp_M_letters_83 (kx117 : mm_T → Option (Int × mm_T)) (a0 : Nat) (v1 : Int) (a3 : Nat) (v4 : Int) (v5 : Int) : Nat → Int → mm_T → Option (Int × mm_T)
  | 0, _, _ => none
  | f + 1, v7, M =>
    if v5 ≤ v7 then (
      kx117 M
    ) else (
      ck_ (v4 + v7) fun x95 =>
      gR_ M a0 11 1 fun r97 =>
      gI_ M a0 11 4 fun x101 =>
      ck_ (x101 + v7) fun x106 =>
      aI_ M r97 1 x106 fun x107 =>
      ck_ (x107 - v1) fun x109 =>
      sI_ M a3 x95 x109 fun M =>
      ck_ (v7 + 1) fun v7_111 =>
      lp_M_letters_83 kx117 a0 v1 a3 v4 v5 f v7_111 M
    )

def k_M_letters (a0 : Nat) (v1 : Int) (v2 : Int) (a3 : Nat) (v4 : Int) (M : mm_T) : Option (Int × mm_T) :=
  ob_ M a0 11 <| cl_ (k_M_wordMany a0 M) fun c1 M =>
  lt_ c1 fun v5_4 =>
  ob_ M a0 11 <| cl_ (k_M_hasFailed a0 M) fun c7 M =>
  if c7 = 0 then (
    cl_ (k_M_in v5_4 1 6 M) fun c20 M =>
    lt_ c20 fun v6_23 =>
    lt_ (0 : Int) fun v7_26 =>
    lp_M_letters_28
      (fun (v6_69 : Int) (M : mm_T) =>
        if ¬ v6_69 = 0 then (
          lt_ (0 : Int) fun v7_81 =>
          lp_M_letters_83
            (fun (M : mm_T) =>
              gI_ M a0 11 4 fun x119 =>
              ck_ (x119 + v5_4) fun x124 =>
              pI_ M a0 11 4 x124 fun M =>
              some (v5_4, M)
            )
            a0 v1 a3 v4 v5_4 FU_ v7_81 M
        ) else (
          ob_ M a0 11 <| cl_ (k_M_fails a0 M) fun _ M =>
          some (0, M)
        )
      )
      a0 v1 v2 v5_4 FU_ v6_23 v7_26 M
  ) else (
    some (0, M)
  )
def k_M_fault (a0 : Nat) (M : mm_T) : Option (Int × mm_T) :=
  pI_ M a0 11 0 0 fun M =>
  gI_ M a0 11 8 fun x6 =>
  some (x6, M)
def k_M_init (a0 : Nat) (M : mm_T) : Option (Unit × mm_T) :=
  ob_ M a0 11 <|
  na_ M 1 400 fun r8 M =>
  pR_ M a0 11 1 r8 fun M =>
  na_ M 0 5 fun r15 M =>
  pR_ M a0 11 3 r15 fun M =>
  pI_ M a0 11 8 (-1) fun M =>
  na_ M 0 198 fun r29 M =>
  pR_ M a0 11 9 r29 fun M =>
  na_ M 0 198 fun r38 M =>
  pR_ M a0 11 10 r38 fun M =>
  na_ M 0 64 fun r46 M =>
  pR_ M a0 11 12 r46 fun M =>
  na_ M 0 64 fun r54 M =>
  pR_ M a0 11 13 r54 fun M =>
  na_ M 0 650 fun r63 M =>
  pR_ M a0 11 16 r63 fun M =>
  na_ M 0 3 fun r70 M =>
  pR_ M a0 11 17 r70 fun M =>
  na_ M 0 3 fun r77 M =>
  pR_ M a0 11 18 r77 fun M =>
  na_ M 0 72 fun r85 M =>
  pR_ M a0 11 19 r85 fun M =>
  na_ M 0 384 fun r94 M =>
  pR_ M a0 11 26 r94 fun M =>
  na_ M 3 208 fun r103 M =>
  pR_ M a0 11 27 r103 fun M =>
  na_ M 3 65 fun r111 M =>
  pR_ M a0 11 28 r111 fun M =>
  na_ M 2 24 fun r119 M =>
  pR_ M a0 11 29 r119 fun M =>
  na_ M 0 6 fun r127 M =>
  pR_ M a0 11 31 r127 fun M =>
  gR_ M a0 11 9 fun r133 =>
  sI_ M r133 0 2 fun M =>
  some ((), M)
def k_M_isName (a0 : Nat) (M : mm_T) : Option (Int × mm_T) :=
  ob_ M a0 11 <| cl_ (k_M_wordMany a0 M) fun c1 M =>
  lt_ c1 fun v1_4 =>
  ob_ M a0 11 <| cl_ (k_M_hasFailed a0 M) fun c6 M =>
  jn_ (fun (M : mm_T) =>
    zz_ 0 (some (0, M))
  ) fun j98 =>
  if ¬ c6 = 0 then (
    j98 M
  ) else (
    cl_ (k_M_in v1_4 1 6 M) fun c16 M =>
    if c16 = 0 then (
      j98 M
    ) else (
      ob_ M a0 11 <| cl_ (k_M_isWord a0 2 M) fun c25 M =>
      if ¬ c25 = 0 then (
        j98 M
      ) else (
        ob_ M a0 11 <| cl_ (k_M_isWord a0 3 M) fun c34 M =>
        if ¬ c34 = 0 then (
          j98 M
        ) else (
          ob_ M a0 11 <| cl_ (k_M_isWord a0 4 M) fun c43 M =>
          if ¬ c43 = 0 then (
            j98 M
          ) else (
            ob_ M a0 11 <| cl_ (k_M_isWord a0 5 M) fun c52 M =>
            if ¬ c52 = 0 then (
              j98 M
            ) else (
              ob_ M a0 11 <| cl_ (k_M_isWord a0 6 M) fun c61 M =>
              if ¬ c61 = 0 then (
                j98 M
              ) else (
                ob_ M a0 11 <| cl_ (k_M_isWord a0 7 M) fun c70 M =>
                if ¬ c70 = 0 then (
                  j98 M
                ) else (
                  ob_ M a0 11 <| cl_ (k_M_isWord a0 8 M) fun c79 M =>
                  if ¬ c79 = 0 then (
                    j98 M
                  ) else (
                    ob_ M a0 11 <| cl_ (k_M_isWord a0 9 M) fun c88 M =>
                    if ¬ c88 = 0 then (
                      j98 M
                    ) else (
                      zz_ 1 (some (1, M))
                    )
                  )
                )
              )
            )
          )
        )
      )
    )
  )
def lp_M_named_20 (kx88 : Int → mm_T → Option (Int × mm_T)) (a0 : Nat) (v1 : Int) (v3 : Int) (v4 : Int) : Nat → Int → Int → mm_T → Option (Int × mm_T)
  | 0, _, _, _ => none
  | f + 1, v5, v6, M =>
    if 6 ≤ v6 then (
      kx88 v5 M
    ) else (
      jn_ (fun (s0_80 : Int) (M : mm_T) =>
        lt_ s0_80 fun v5_80 =>
        ck_ (v6 + 1) fun v6_82 =>
        lp_M_named_20 kx88 a0 v1 v3 v4 f v5_80 v6_82 M
      ) fun j80 =>
      jn_ (fun (M : mm_T) =>
        j80 0 M
      ) fun j79 =>
      if v5 = 0 then (
        j79 M
      ) else (
        gR_ M a0 11 10 fun r33 =>
        ck_ (v1 + v4) fun x43 =>
        ck_ (6 * x43) fun x44 =>
        ck_ (6 + x44) fun x45 =>
        ck_ (x45 + v6) fun x48 =>
        aI_ M r33 0 x48 fun x49 =>
        jn_ (fun (s0_72 : Int) (s1_72 : Int) (M : mm_T) =>
          if ¬ s0_72 = s1_72 then (
            j79 M
          ) else (
            j80 1 M
          )
        ) fun j72 =>
        if v3 ≤ v6 then (
          j72 x49 0 M
        ) else (
          gR_ M a0 11 1 fun r57 =>
          gI_ M a0 11 4 fun x61 =>
          ck_ (x61 + v6) fun x66 =>
          aI_ M r57 1 x66 fun x67 =>
          j72 x49 x67 M
        )
      )
    )

def lp_M_named_8 (kx102 : mm_T → Option (Int × mm_T)) (a0 : Nat) (v1 : Int) (v2 : Int) (v3 : Int) : Nat → Int → mm_T → Option (Int × mm_T)
  | 0, _, _ => none
  | f + 1, v4, M =>
    if v2 ≤ v4 then (
      kx102 M
    ) else (
      lt_ (1 : Int) fun v5_15 =>
      lt_ (0 : Int) fun v6_18 =>
      lp_M_named_20
        (fun (v5_88 : Int) (M : mm_T) =>
          if v5_88 = 0 then (
            ck_ (v4 + 1) fun v4_96 =>
            lp_M_named_8 kx102 a0 v1 v2 v3 f v4_96 M
          ) else (
            some (v4, M)
          )
        )
        a0 v1 v3 v4 FU_ v5_15 v6_18 M
    )

def k_M_named (a0 : Nat) (v1 : Int) (v2 : Int) (M : mm_T) : Option (Int × mm_T) :=
  ob_ M a0 11 <| cl_ (k_M_wordMany a0 M) fun c1 M =>
  lt_ c1 fun v3_4 =>
  lt_ (0 : Int) fun v4_6 =>
  lp_M_named_8
    (fun (M : mm_T) =>
      some ((-1), M)
    )
    a0 v1 v2 v3_4 FU_ v4_6 M
def lp_M_freshName_57 (kx103 : mm_T → Option (Unit × mm_T)) (a0 : Nat) (v1 : Int) (v2 : Int) : Nat → Int → mm_T → Option (Unit × mm_T)
  | 0, _, _ => none
  | f + 1, v3, M =>
    if 6 ≤ v3 then (
      kx103 M
    ) else (
      gR_ M a0 11 10 fun r64 =>
      ck_ (6 * v1) fun x72 =>
      ck_ (6 + x72) fun x73 =>
      ck_ (x73 + v3) fun x75 =>
      jn_ (fun (sa0_96 : Nat) (s1_96 : Int) (s2_96 : Int) (M : mm_T) =>
        sI_ M sa0_96 s1_96 s2_96 fun M =>
        ck_ (v3 + 1) fun v3_97 =>
        lp_M_freshName_57 kx103 a0 v1 v2 f v3_97 M
      ) fun j96 =>
      if v2 ≤ v3 then (
        j96 r64 x75 0 M
      ) else (
        gR_ M a0 11 1 fun r82 =>
        gI_ M a0 11 4 fun x86 =>
        ck_ (x86 + v3) fun x90 =>
        aI_ M r82 1 x90 fun x91 =>
        j96 r64 x75 x91 M
      )
    )

def k_M_freshName (a0 : Nat) (v1 : Int) (M : mm_T) : Option (Unit × mm_T) :=
  ob_ M a0 11 <| cl_ (k_M_hasFailed a0 M) fun c1 M =>
  if c1 = 0 then (
    ob_ M a0 11 <| cl_ (k_M_isName a0 M) fun c9 M =>
    jn_ (fun (M : mm_T) =>
      ob_ M a0 11 <| cl_ (k_M_fails a0 M) fun _ M =>
      some ((), M)
    ) fun j45 =>
    if c9 = 0 then (
      j45 M
    ) else (
      gR_ M a0 11 10 fun r18 =>
      aI_ M r18 0 4 fun x22 =>
      ob_ M a0 11 <| cl_ (k_M_named a0 0 x22 M) fun c23 M =>
      if ¬ c23 = (-1) then (
        j45 M
      ) else (
        gR_ M a0 11 10 fun r33 =>
        aI_ M r33 0 5 fun x37 =>
        ob_ M a0 11 <| cl_ (k_M_named a0 4 x37 M) fun c38 M =>
        if c38 = (-1) then (
          ob_ M a0 11 <| cl_ (k_M_wordMany a0 M) fun c51 M =>
          lt_ c51 fun v2_54 =>
          lt_ (0 : Int) fun v3_56 =>
          lp_M_freshName_57
            (fun (M : mm_T) =>
              gI_ M a0 11 4 fun x105 =>
              ck_ (x105 + v2_54) fun x109 =>
              pI_ M a0 11 4 x109 fun M =>
              some ((), M)
            )
            a0 v1 v2_54 FU_ v3_56 M
        ) else (
          j45 M
        )
      )
    )
  ) else (
    some ((), M)
  )
def k_M_limitLine (a0 : Nat) (M : mm_T) : Option (Unit × mm_T) :=
  gI_ M a0 11 11 fun x1 =>
  if x1 = 0 then (
    pZ_ M a0 11 11 1 fun M =>
    ob_ M a0 11 <| cl_ (k_M_asksWord a0 3 M) fun _ M =>
    ob_ M a0 11 <| cl_ (k_M_takesWord a0 4 M) fun c26 M =>
    lt_ c26 fun v1_29 =>
    jn_ (fun (M : mm_T) =>
      gR_ M a0 11 10 fun r41 =>
      jn_ (fun (sa0_54 : Nat) (s1_54 : Int) (s2_54 : Int) (M : mm_T) =>
        sI_ M sa0_54 s1_54 s2_54 fun M =>
        gR_ M a0 11 10 fun r56 =>
        ob_ M a0 11 <| cl_ (k_M_number a0 1 99 M) fun c64 M =>
        sI_ M r56 2 c64 fun M =>
        ob_ M a0 11 <| cl_ (k_M_asksWord a0 6 M) fun _ M =>
        gR_ M a0 11 10 fun r75 =>
        ob_ M a0 11 <| cl_ (k_M_number a0 1 9 M) fun c83 M =>
        sI_ M r75 3 c83 fun M =>
        some ((), M)
      ) fun j54 =>
      if v1_29 = 0 then (
        j54 r41 1 2 M
      ) else (
        j54 r41 1 1 M
      )
    ) fun j40 =>
    if ¬ v1_29 = 0 then (
      j40 M
    ) else (
      ob_ M a0 11 <| cl_ (k_M_asksWord a0 5 M) fun _ M =>
      j40 M
    )
  ) else (
    ob_ M a0 11 <| cl_ (k_M_fails a0 M) fun _ M =>
    some ((), M)
  )
def lp_M_mapLine_30 (kx132 : mm_T → Option (Unit × mm_T)) (a0 : Nat) (v1 : Int) : Nat → Int → mm_T → Option (Unit × mm_T)
  | 0, _, _ => none
  | f + 1, v2, M =>
    gR_ M a0 11 10 fun r32 =>
    aI_ M r32 0 0 fun x36 =>
    if x36 ≤ v2 then (
      kx132 M
    ) else (
      ob_ M a0 11 <| cl_ (k_M_hasFailed a0 M) fun c41 M =>
      if ¬ c41 = 0 then (
        kx132 M
      ) else (
        ob_ M a0 11 <| cl_ (k_M_wordMany a0 M) fun c48 M =>
        jn_ (fun (M : mm_T) =>
          ob_ M a0 11 <| cl_ (k_M_fails a0 M) fun _ M =>
          some ((), M)
        ) fun j71 =>
        if ¬ c48 = 1 then (
          j71 M
        ) else (
          gR_ M a0 11 1 fun r56 =>
          gI_ M a0 11 4 fun x60 =>
          aI_ M r56 1 x60 fun x63 =>
          ck_ (97 + v2) fun x67 =>
          if x63 = x67 then (
            gI_ M a0 11 4 fun x78 =>
            ck_ (x78 + 1) fun x82 =>
            pI_ M a0 11 4 x82 fun M =>
            gR_ M a0 11 10 fun r87 =>
            ck_ (4 * v1) fun x94 =>
            ck_ (54 + x94) fun x95 =>
            ck_ (x95 + v2) fun x97 =>
            gR_ M a0 11 10 fun r102 =>
            aI_ M r102 0 0 fun x106 =>
            gR_ M a0 11 10 fun r108 =>
            ck_ (4 * v1) fun x117 =>
            ck_ (x117 + v2) fun x119 =>
            ck_ (6 * x119) fun x120 =>
            ck_ (70 + x120) fun x121 =>
            ob_ M a0 11 <| cl_ (k_M_letters a0 97 x106 r108 x121 M) fun c122 M =>
            sI_ M r87 x97 c122 fun M =>
            ck_ (v2 + 1) fun v2_126 =>
            lp_M_mapLine_30 kx132 a0 v1 f v2_126 M
          ) else (
            j71 M
          )
        )
      )
    )

def k_M_mapLine (a0 : Nat) (M : mm_T) : Option (Unit × mm_T) :=
  gR_ M a0 11 10 fun r1 =>
  aI_ M r1 0 4 fun x5 =>
  lt_ x5 fun v1_6 =>
  if ¬ v1_6 = 4 then (
    ob_ M a0 11 <| cl_ (k_M_asksWord a0 7 M) fun _ M =>
    ob_ M a0 11 <| cl_ (k_M_freshName a0 v1_6 M) fun _ M =>
    lt_ (0 : Int) fun v2_29 =>
    lp_M_mapLine_30
      (fun (M : mm_T) =>
        gR_ M a0 11 10 fun r133 =>
        aI_ M r133 0 4 fun x138 =>
        ck_ (x138 + 1) fun x140 =>
        sI_ M r133 4 x140 fun M =>
        some ((), M)
      )
      a0 v1_6 FU_ v2_29 M
  ) else (
    ob_ M a0 11 <| cl_ (k_M_fails a0 M) fun _ M =>
    some ((), M)
  )
def k_M_patternLine (a0 : Nat) (M : mm_T) : Option (Unit × mm_T) :=
  gR_ M a0 11 10 fun r1 =>
  aI_ M r1 0 5 fun x5 =>
  lt_ x5 fun v1_6 =>
  if ¬ v1_6 = 4 then (
    ob_ M a0 11 <| cl_ (k_M_asksWord a0 8 M) fun _ M =>
    ck_ (4 + v1_6) fun x26 =>
    ob_ M a0 11 <| cl_ (k_M_freshName a0 x26 M) fun _ M =>
    gR_ M a0 11 10 fun r31 =>
    ck_ (166 + v1_6) fun x38 =>
    gR_ M a0 11 10 fun r44 =>
    ck_ (6 * v1_6) fun x53 =>
    ck_ (170 + x53) fun x54 =>
    ob_ M a0 11 <| cl_ (k_M_letters a0 120 3 r44 x54 M) fun c55 M =>
    sI_ M r31 x38 c55 fun M =>
    gR_ M a0 11 10 fun r60 =>
    aI_ M r60 0 5 fun x65 =>
    ck_ (x65 + 1) fun x67 =>
    sI_ M r60 5 x67 fun M =>
    some ((), M)
  ) else (
    ob_ M a0 11 <| cl_ (k_M_fails a0 M) fun _ M =>
    some ((), M)
  )
def k_M_avoidLine (a0 : Nat) (M : mm_T) : Option (Unit × mm_T) :=
  ob_ M a0 11 <| cl_ (k_M_asksWord a0 9 M) fun _ M =>
  ob_ M a0 11 <| cl_ (k_M_blanks a0 M) fun _ M =>
  ob_ M a0 11 <| cl_ (k_M_hasFailed a0 M) fun c11 M =>
  if c11 = 0 then (
    ob_ M a0 11 <| cl_ (k_M_isName a0 M) fun c19 M =>
    jn_ (fun (s0_40 : Int) (M : mm_T) =>
      lt_ s0_40 fun v1_40 =>
      jn_ (fun (M : mm_T) =>
        ob_ M a0 11 <| cl_ (k_M_fails a0 M) fun _ M =>
        some ((), M)
      ) fun j60 =>
      if v1_40 = (-1) then (
        j60 M
      ) else (
        gR_ M a0 11 10 fun r47 =>
        ck_ (194 + v1_40) fun x54 =>
        aI_ M r47 0 x54 fun x55 =>
        if ¬ x55 = 1 then (
          gI_ M a0 11 4 fun x67 =>
          ob_ M a0 11 <| cl_ (k_M_wordMany a0 M) fun c71 M =>
          ck_ (x67 + c71) fun x74 =>
          pI_ M a0 11 4 x74 fun M =>
          gR_ M a0 11 10 fun r79 =>
          ck_ (194 + v1_40) fun x86 =>
          sI_ M r79 x86 1 fun M =>
          some ((), M)
        ) else (
          j60 M
        )
      )
    ) fun j40 =>
    if c19 = 0 then (
      j40 (-1) M
    ) else (
      gR_ M a0 11 10 fun r28 =>
      aI_ M r28 0 5 fun x32 =>
      ob_ M a0 11 <| cl_ (k_M_named a0 4 x32 M) fun c33 M =>
      j40 c33 M
    )
  ) else (
    some ((), M)
  )
def k_M_line (a0 : Nat) (M : mm_T) : Option (Unit × mm_T) :=
  ob_ M a0 11 <| cl_ (k_M_blanks a0 M) fun _ M =>
  gR_ M a0 11 10 fun r5 =>
  aI_ M r5 0 0 fun x9 =>
  jn_ (fun (s0_18 : Int) (M : mm_T) =>
    lt_ s0_18 fun v1_18 =>
    jn_ (fun (M : mm_T) =>
      ob_ M a0 11 <| cl_ (k_M_asksSign a0 59 M) fun _ M =>
      some ((), M)
    ) fun j131 =>
    jn_ (fun (M : mm_T) =>
      jn_ (fun (M : mm_T) =>
        jn_ (fun (M : mm_T) =>
          jn_ (fun (M : mm_T) =>
            jn_ (fun (M : mm_T) =>
              ob_ M a0 11 <| cl_ (k_M_fails a0 M) fun _ M =>
              j131 M
            ) fun j127 =>
            if v1_18 = 0 then (
              j127 M
            ) else (
              ob_ M a0 11 <| cl_ (k_M_isWord a0 9 M) fun c114 M =>
              if c114 = 0 then (
                j127 M
              ) else (
                ob_ M a0 11 <| cl_ (k_M_avoidLine a0 M) fun _ M =>
                j131 M
              )
            )
          ) fun j107 =>
          if v1_18 = 0 then (
            j107 M
          ) else (
            ob_ M a0 11 <| cl_ (k_M_isWord a0 8 M) fun c94 M =>
            if c94 = 0 then (
              j107 M
            ) else (
              ob_ M a0 11 <| cl_ (k_M_patternLine a0 M) fun _ M =>
              j131 M
            )
          )
        ) fun j87 =>
        if v1_18 = 0 then (
          j87 M
        ) else (
          ob_ M a0 11 <| cl_ (k_M_isWord a0 7 M) fun c74 M =>
          if c74 = 0 then (
            j87 M
          ) else (
            ob_ M a0 11 <| cl_ (k_M_mapLine a0 M) fun _ M =>
            j131 M
          )
        )
      ) fun j67 =>
      if v1_18 = 0 then (
        j67 M
      ) else (
        ob_ M a0 11 <| cl_ (k_M_isWord a0 3 M) fun c54 M =>
        if c54 = 0 then (
          j67 M
        ) else (
          ob_ M a0 11 <| cl_ (k_M_limitLine a0 M) fun _ M =>
          j131 M
        )
      )
    ) fun j47 =>
    if ¬ v1_18 = 0 then (
      j47 M
    ) else (
      ob_ M a0 11 <| cl_ (k_M_takesWord a0 2 M) fun c26 M =>
      if c26 = 0 then (
        j47 M
      ) else (
        gR_ M a0 11 10 fun r33 =>
        ob_ M a0 11 <| cl_ (k_M_number a0 2 4 M) fun c40 M =>
        sI_ M r33 0 c40 fun M =>
        j131 M
      )
    )
  ) fun j18 =>
  if x9 ≤ 0 then (
    j18 0 M
  ) else (
    j18 1 M
  )
def lp_M_read_11 (kx31 : mm_T → Option (Int × mm_T)) (a0 : Nat) : Nat → Int → mm_T → Option (Int × mm_T)
  | 0, _, _ => none
  | f + 1, v1, M =>
    if 198 ≤ v1 then (
      kx31 M
    ) else (
      gR_ M a0 11 10 fun r19 =>
      sI_ M r19 v1 0 fun M =>
      ck_ (v1 + 1) fun v1_25 =>
      lp_M_read_11 kx31 a0 f v1_25 M
    )

def lp_M_read_40 (kx69 : mm_T → Option (Int × mm_T)) (a0 : Nat) : Nat → mm_T → Option (Int × mm_T)
  | 0, _ => none
  | f + 1, M =>
    ob_ M a0 11 <| cl_ (k_M_hasFailed a0 M) fun c41 M =>
    if ¬ c41 = 0 then (
      kx69 M
    ) else (
      gI_ M a0 11 4 fun x48 =>
      gI_ M a0 11 6 fun x52 =>
      if x52 ≤ x48 then (
        kx69 M
      ) else (
        ob_ M a0 11 <| cl_ (k_M_line a0 M) fun _ M =>
        ob_ M a0 11 <| cl_ (k_M_blanks a0 M) fun _ M =>
        lp_M_read_40 kx69 a0 f M
      )
    )

def lp_M_read_113 (kx138 : mm_T → Option (Int × mm_T)) (a0 : Nat) : Nat → Int → mm_T → Option (Int × mm_T)
  | 0, _, _ => none
  | f + 1, v1, M =>
    if 198 ≤ v1 then (
      kx138 M
    ) else (
      gR_ M a0 11 9 fun r121 =>
      gR_ M a0 11 10 fun r126 =>
      aI_ M r126 0 v1 fun x130 =>
      sI_ M r121 v1 x130 fun M =>
      ck_ (v1 + 1) fun v1_132 =>
      lp_M_read_113 kx138 a0 f v1_132 M
    )

def k_M_read (a0 : Nat) (M : mm_T) : Option (Int × mm_T) :=
  pI_ M a0 11 0 0 fun M =>
  ob_ M a0 11 <| cl_ (k_M_begins a0 M) fun _ M =>
  lt_ (0 : Int) fun v1_10 =>
  lp_M_read_11
    (fun (M : mm_T) =>
      pZ_ M a0 11 11 0 fun M =>
      ob_ M a0 11 <| cl_ (k_M_blanks a0 M) fun _ M =>
      lp_M_read_40
        (fun (M : mm_T) =>
          ob_ M a0 11 <| cl_ (k_M_hasFailed a0 M) fun c70 M =>
          jn_ (fun (M : mm_T) =>
            gI_ M a0 11 7 fun x91 =>
            pI_ M a0 11 8 x91 fun M =>
            ob_ M a0 11 <| cl_ (k_M_hasFailed a0 M) fun c99 M =>
            ob_ M a0 11 <| cl_ (k_M_throwsIf a0 c99 1 M) fun c103 M =>
            if c103 = 0 then (
              lt_ (0 : Int) fun v1_112 =>
              lp_M_read_113
                (fun (M : mm_T) =>
                  pI_ M a0 11 14 0 fun M =>
                  pI_ M a0 11 15 0 fun M =>
                  gR_ M a0 11 9 fun r149 =>
                  aI_ M r149 0 0 fun x153 =>
                  some (x153, M)
                )
                a0 FU_ v1_112 M
            ) else (
              some (0, M)
            )
          ) fun j89 =>
          if ¬ c70 = 0 then (
            j89 M
          ) else (
            gR_ M a0 11 10 fun r77 =>
            aI_ M r77 0 0 fun x81 =>
            if ¬ x81 = 0 then (
              j89 M
            ) else (
              ob_ M a0 11 <| cl_ (k_M_fails a0 M) fun _ M =>
              j89 M
            )
          )
        )
        a0 FU_ M
    )
    a0 FU_ v1_10 M
def lp_M_laysAside_69 (kx104 : mm_T → Option (Unit × mm_T)) (a0 : Nat) (v1 : Int) : Nat → Int → mm_T → Option (Unit × mm_T)
  | 0, _, _ => none
  | f + 1, v2, M =>
    gI_ M a0 11 14 fun x71 =>
    if x71 ≤ v2 then (
      kx104 M
    ) else (
      gR_ M a0 11 16 fun r78 =>
      gI_ M a0 11 15 fun x83 =>
      ck_ (v1 * x83) fun x86 =>
      ck_ (x86 + 1) fun x88 =>
      ck_ (x88 + v2) fun x90 =>
      gR_ M a0 11 12 fun r92 =>
      aI_ M r92 0 v2 fun x96 =>
      sI_ M r78 x90 x96 fun M =>
      ck_ (v2 + 1) fun v2_98 =>
      lp_M_laysAside_69 kx104 a0 v1 f v2_98 M
    )

def lp_M_laysAside_14 (kx42 : mm_T → Option (Unit × mm_T)) (a0 : Nat) (v1 : Int) : Nat → Int → mm_T → Option (Unit × mm_T)
  | 0, _, _ => none
  | f + 1, v2, M =>
    ck_ (10 * v1) fun x18 =>
    if x18 ≤ v2 then (
      kx42 M
    ) else (
      gR_ M a0 11 16 fun r23 =>
      ck_ (v2 - v1) fun x28 =>
      gR_ M a0 11 16 fun r30 =>
      aI_ M r30 0 v2 fun x34 =>
      sI_ M r23 x28 x34 fun M =>
      ck_ (v2 + 1) fun v2_36 =>
      lp_M_laysAside_14 kx42 a0 v1 f v2_36 M
    )

def k_M_laysAside (a0 : Nat) (M : mm_T) : Option (Unit × mm_T) :=
  lt_ (65 : Int) fun v1_2 =>
  gI_ M a0 11 15 fun x4 =>
  jn_ (fun (M : mm_T) =>
    gR_ M a0 11 16 fun r53 =>
    gI_ M a0 11 15 fun x58 =>
    ck_ (v1_2 * x58) fun x61 =>
    gI_ M a0 11 14 fun x63 =>
    sI_ M r53 x61 x63 fun M =>
    lt_ (0 : Int) fun v2_68 =>
    lp_M_laysAside_69
      (fun (M : mm_T) =>
        gI_ M a0 11 15 fun x106 =>
        ck_ (x106 + 1) fun x110 =>
        pI_ M a0 11 15 x110 fun M =>
        some ((), M)
      )
      a0 v1_2 FU_ v2_68 M
  ) fun j52 =>
  if ¬ x4 = 10 then (
    j52 M
  ) else (
    lt_ v1_2 fun v2_13 =>
    lp_M_laysAside_14
      (fun (M : mm_T) =>
        gI_ M a0 11 15 fun x44 =>
        ck_ (x44 - 1) fun x48 =>
        pI_ M a0 11 15 x48 fun M =>
        j52 M
      )
      a0 v1_2 FU_ v2_13 M
  )
def lp_M_becomes_11 (kx34 : mm_T → Option (Unit × mm_T)) (a0 : Nat) (v1 : Int) : Nat → Int → mm_T → Option (Unit × mm_T)
  | 0, _, _ => none
  | f + 1, v2, M =>
    if v1 ≤ v2 then (
      kx34 M
    ) else (
      gR_ M a0 11 12 fun r17 =>
      gR_ M a0 11 13 fun r22 =>
      aI_ M r22 0 v2 fun x26 =>
      sI_ M r17 v2 x26 fun M =>
      ck_ (v2 + 1) fun v2_28 =>
      lp_M_becomes_11 kx34 a0 v1 f v2_28 M
    )

def k_M_becomes (a0 : Nat) (v1 : Int) (M : mm_T) : Option (Unit × mm_T) :=
  ob_ M a0 11 <| cl_ (k_M_laysAside a0 M) fun _ M =>
  pI_ M a0 11 14 v1 fun M =>
  lt_ (0 : Int) fun v2_10 =>
  lp_M_becomes_11
    (fun (M : mm_T) =>
      some ((), M)
    )
    a0 v1 FU_ v2_10 M
def lp_M_undo_44 (kx74 : mm_T → Option (Int × mm_T)) (a0 : Nat) (v1 : Int) : Nat → Int → mm_T → Option (Int × mm_T)
  | 0, _, _ => none
  | f + 1, v2, M =>
    gI_ M a0 11 14 fun x46 =>
    if x46 ≤ v2 then (
      kx74 M
    ) else (
      gR_ M a0 11 12 fun r53 =>
      gR_ M a0 11 16 fun r58 =>
      ck_ (v1 + 1) fun x63 =>
      ck_ (x63 + v2) fun x65 =>
      aI_ M r58 0 x65 fun x66 =>
      sI_ M r53 v2 x66 fun M =>
      ck_ (v2 + 1) fun v2_68 =>
      lp_M_undo_44 kx74 a0 v1 f v2_68 M
    )

def k_M_undo (a0 : Nat) (M : mm_T) : Option (Int × mm_T) :=
  pI_ M a0 11 0 0 fun M =>
  gI_ M a0 11 15 fun x6 =>
  if ¬ x6 = 0 then (
    gI_ M a0 11 15 fun x16 =>
    ck_ (x16 - 1) fun x20 =>
    pI_ M a0 11 15 x20 fun M =>
    gI_ M a0 11 15 fun x27 =>
    ck_ (65 * x27) fun x30 =>
    lt_ x30 fun v1_31 =>
    gR_ M a0 11 16 fun r34 =>
    aI_ M r34 0 v1_31 fun x38 =>
    pI_ M a0 11 14 x38 fun M =>
    lt_ (0 : Int) fun v2_43 =>
    lp_M_undo_44
      (fun (M : mm_T) =>
        gI_ M a0 11 15 fun x75 =>
        some (x75, M)
      )
      a0 v1_31 FU_ v2_43 M
  ) else (
    some ((-1), M)
  )
def lp_M_word_15 (kx75 : Int → mm_T → Option (Int × mm_T)) (a0 : Nat) : Nat → Int → mm_T → Option (Int × mm_T)
  | 0, _, _ => none
  | f + 1, v1, M =>
    gR_ M a0 11 9 fun r21 =>
    aI_ M r21 0 0 fun x25 =>
    ck_ (97 + x25) fun x26 =>
    ck_ (x26 - 1) fun x28 =>
    ob_ M a0 11 <| cl_ (k_M_isAt a0 97 x28 M) fun c29 M =>
    if c29 = 0 then (
      kx75 v1 M
    ) else (
      if 64 ≤ v1 then (
        kx75 v1 M
      ) else (
        gR_ M a0 11 13 fun r42 =>
        gR_ M a0 11 1 fun r47 =>
        gI_ M a0 11 4 fun x51 =>
        aI_ M r47 1 x51 fun x54 =>
        ck_ (x54 - 97) fun x57 =>
        sI_ M r42 v1 x57 fun M =>
        ck_ (v1 + 1) fun v1_59 =>
        gI_ M a0 11 4 fun x64 =>
        ck_ (x64 + 1) fun x68 =>
        pI_ M a0 11 4 x68 fun M =>
        lp_M_word_15 kx75 a0 f v1_59 M
      )
    )

def k_M_word (a0 : Nat) (M : mm_T) : Option (Int × mm_T) :=
  pI_ M a0 11 0 0 fun M =>
  ob_ M a0 11 <| cl_ (k_M_begins a0 M) fun _ M =>
  ob_ M a0 11 <| cl_ (k_M_blanks a0 M) fun _ M =>
  lt_ (0 : Int) fun v1_14 =>
  lp_M_word_15
    (fun (v1_75 : Int) (M : mm_T) =>
      ob_ M a0 11 <| cl_ (k_M_blanks a0 M) fun _ M =>
      gI_ M a0 11 4 fun x80 =>
      gI_ M a0 11 6 fun x84 =>
      jn_ (fun (M : mm_T) =>
        gI_ M a0 11 7 fun x96 =>
        pI_ M a0 11 8 x96 fun M =>
        ob_ M a0 11 <| cl_ (k_M_hasFailed a0 M) fun c104 M =>
        ob_ M a0 11 <| cl_ (k_M_throwsIf a0 c104 1 M) fun c108 M =>
        if c108 = 0 then (
          ob_ M a0 11 <| cl_ (k_M_becomes a0 v1_75 M) fun _ M =>
          gI_ M a0 11 14 fun x122 =>
          some (x122, M)
        ) else (
          some (0, M)
        )
      ) fun j94 =>
      if x84 ≤ x80 then (
        j94 M
      ) else (
        ob_ M a0 11 <| cl_ (k_M_fails a0 M) fun _ M =>
        j94 M
      )
    )
    a0 FU_ v1_14 M
def k_M_letter (a0 : Nat) (v1 : Int) (M : mm_T) : Option (Int × mm_T) :=
  pI_ M a0 11 0 0 fun M =>
  gI_ M a0 11 14 fun x8 =>
  ck_ (x8 - 1) fun x12 =>
  cl_ (k_M_in v1 0 x12 M) fun c13 M =>
  if c13 = 0 then (
    some ((-1), M)
  ) else (
    gR_ M a0 11 12 fun r20 =>
    aI_ M r20 0 v1 fun x24 =>
    some (x24, M)
  )
def k_M_noLetter (a0 : Nat) (v1 : Int) (v2 : Int) (M : mm_T) : Option (Int × mm_T) :=
  gR_ M a0 11 9 fun r4 =>
  aI_ M r4 0 0 fun x8 =>
  ck_ (x8 - 1) fun x10 =>
  cl_ (k_M_in v1 0 x10 M) fun c11 M =>
  jn_ (fun (sa0_22 : Nat) (s1_22 : Int) (M : mm_T) =>
    ob_ M sa0_22 11 <| cl_ (k_M_throwsIf sa0_22 s1_22 v2 M) fun c23 M =>
    zz_ c23 (some (c23, M))
  ) fun j22 =>
  if ¬ c11 = 0 then (
    j22 a0 0 M
  ) else (
    j22 a0 1 M
  )
def k_M_push (a0 : Nat) (v1 : Int) (M : mm_T) : Option (Int × mm_T) :=
  pI_ M a0 11 0 0 fun M =>
  ob_ M a0 11 <| cl_ (k_M_noLetter a0 v1 1 M) fun c8 M =>
  if ¬ c8 = 0 then (
    some (0, M)
  ) else (
    gI_ M a0 11 14 fun x16 =>
    jn_ (fun (sa0_29 : Nat) (s1_29 : Int) (M : mm_T) =>
      ob_ M sa0_29 11 <| cl_ (k_M_throwsIf sa0_29 s1_29 2 M) fun c30 M =>
      if c30 = 0 then (
        ob_ M a0 11 <| cl_ (k_M_laysAside a0 M) fun _ M =>
        gR_ M a0 11 12 fun r43 =>
        gI_ M a0 11 14 fun x47 =>
        sI_ M r43 x47 v1 fun M =>
        gI_ M a0 11 14 fun x54 =>
        ck_ (x54 + 1) fun x58 =>
        pI_ M a0 11 14 x58 fun M =>
        gI_ M a0 11 14 fun x63 =>
        some (x63, M)
      ) else (
        some (0, M)
      )
    ) fun j29 =>
    if ¬ x16 = 64 then (
      j29 a0 0 M
    ) else (
      j29 a0 1 M
    )
  )
def k_M_pop (a0 : Nat) (M : mm_T) : Option (Int × mm_T) :=
  pI_ M a0 11 0 0 fun M =>
  gI_ M a0 11 14 fun x7 =>
  jn_ (fun (sa0_18 : Nat) (s1_18 : Int) (M : mm_T) =>
    ob_ M sa0_18 11 <| cl_ (k_M_throwsIf sa0_18 s1_18 1 M) fun c19 M =>
    if c19 = 0 then (
      ob_ M a0 11 <| cl_ (k_M_laysAside a0 M) fun _ M =>
      gI_ M a0 11 14 fun x33 =>
      ck_ (x33 - 1) fun x37 =>
      pI_ M a0 11 14 x37 fun M =>
      gR_ M a0 11 12 fun r42 =>
      gI_ M a0 11 14 fun x46 =>
      aI_ M r42 0 x46 fun x49 =>
      some (x49, M)
    ) else (
      some (0, M)
    )
  ) fun j18 =>
  if ¬ x7 = 0 then (
    j18 a0 0 M
  ) else (
    j18 a0 1 M
  )
def k_M_isBeyond (a0 : Nat) (v1 : Int) (v2 : Int) (M : mm_T) : Option (Int × mm_T) :=
  gR_ M a0 11 9 fun r2 =>
  aI_ M r2 0 3 fun x6 =>
  ck_ (v1 * x6) fun x7 =>
  gR_ M a0 11 9 fun r9 =>
  aI_ M r9 0 2 fun x13 =>
  ck_ (x13 * v2) fun x15 =>
  ck_ (x7 - x15) fun x16 =>
  lt_ x16 fun v3_17 =>
  gR_ M a0 11 9 fun r19 =>
  aI_ M r19 0 1 fun x23 =>
  if ¬ x23 = 1 then (
    gR_ M a0 11 9 fun r41 =>
    aI_ M r41 0 1 fun x45 =>
    jn_ (fun (M : mm_T) =>
      zz_ 0 (some (0, M))
    ) fun j58 =>
    if ¬ x45 = 2 then (
      j58 M
    ) else (
      if v3_17 ≤ 0 then (
        j58 M
      ) else (
        zz_ 1 (some (1, M))
      )
    )
  ) else (
    if v3_17 < 0 then (
      zz_ 0 (some (0, M))
    ) else (
      zz_ 1 (some (1, M))
    )
  )
def lp_M_isRepeated_19 (kx52 : Int → mm_T → Option (Int × mm_T)) (a1 : Nat) (v2 : Int) (v3 : Int) : Nat → Int → mm_T → Option (Int × mm_T)
  | 0, _, _ => none
  | f + 1, v4, M =>
    if v2 ≤ v4 then (
      kx52 v4 M
    ) else (
      ck_ (v2 - 1) fun x28 =>
      ck_ (x28 - v4) fun x31 =>
      aI_ M a1 0 x31 fun x32 =>
      ck_ (v2 - 1) fun x36 =>
      ck_ (x36 - v4) fun x39 =>
      ck_ (x39 + v3) fun x41 =>
      aI_ M a1 0 x41 fun x42 =>
      if ¬ x32 = x42 then (
        kx52 v4 M
      ) else (
        ck_ (v4 + 1) fun v4_46 =>
        lp_M_isRepeated_19 kx52 a1 v2 v3 f v4_46 M
      )
    )

def lp_M_isRepeated_2 (kx70 : mm_T → Option (Int × mm_T)) (a0 : Nat) (a1 : Nat) (v2 : Int) : Nat → Int → mm_T → Option (Int × mm_T)
  | 0, _, _ => none
  | f + 1, v3, M =>
    if v2 < v3 then (
      kx70 M
    ) else (
      gR_ M a0 11 9 fun r8 =>
      aI_ M r8 0 1 fun x12 =>
      if x12 ≤ 0 then (
        kx70 M
      ) else (
        lt_ v3 fun v4_17 =>
        lp_M_isRepeated_19
          (fun (v4_52 : Int) (M : mm_T) =>
            ob_ M a0 11 <| cl_ (k_M_isBeyond a0 v4_52 v3 M) fun c56 M =>
            if c56 = 0 then (
              ck_ (v3 + 1) fun v3_64 =>
              lp_M_isRepeated_2 kx70 a0 a1 v2 f v3_64 M
            ) else (
              zz_ 1 (some (1, M))
            )
          )
          a1 v2 v3 FU_ v4_17 M
      )
    )

def k_M_isRepeated (a0 : Nat) (a1 : Nat) (v2 : Int) (M : mm_T) : Option (Int × mm_T) :=
  lt_ (1 : Int) fun v3_1 =>
  lp_M_isRepeated_2
    (fun (M : mm_T) =>
      zz_ 0 (some (0, M))
    )
    a0 a1 v2 FU_ v3_1 M
def k_M_letterOf (a0 : Nat) (v1 : Int) (v2 : Int) (M : mm_T) : Option (Int × mm_T) :=
  gR_ M a0 11 9 fun r1 =>
  ck_ (6 * v1) fun x10 =>
  ck_ (170 + x10) fun x11 =>
  ck_ (x11 + v2) fun x13 =>
  aI_ M r1 0 x13 fun x14 =>
  some (x14, M)
def lp_M_hasLetter_2 (kx34 : mm_T → Option (Int × mm_T)) (a0 : Nat) (v1 : Int) (v2 : Int) : Nat → Int → mm_T → Option (Int × mm_T)
  | 0, _, _ => none
  | f + 1, v3, M =>
    gR_ M a0 11 9 fun r4 =>
    ck_ (166 + v1) fun x11 =>
    aI_ M r4 0 x11 fun x12 =>
    if x12 ≤ v3 then (
      kx34 M
    ) else (
      ob_ M a0 11 <| cl_ (k_M_letterOf a0 v1 v3 M) fun c19 M =>
      if ¬ c19 = v2 then (
        ck_ (v3 + 1) fun v3_28 =>
        lp_M_hasLetter_2 kx34 a0 v1 v2 f v3_28 M
      ) else (
        zz_ 1 (some (1, M))
      )
    )

def k_M_hasLetter (a0 : Nat) (v1 : Int) (v2 : Int) (M : mm_T) : Option (Int × mm_T) :=
  lt_ (0 : Int) fun v3_1 =>
  lp_M_hasLetter_2
    (fun (M : mm_T) =>
      zz_ 0 (some (0, M))
    )
    a0 v1 v2 FU_ v3_1 M
def lp_M_longBy_4 (kx38 : Int → mm_T → Option (Int × mm_T)) (a0 : Nat) (v1 : Int) : Nat → Int → Int → mm_T → Option (Int × mm_T)
  | 0, _, _, _ => none
  | f + 1, v2, v3, M =>
    gR_ M a0 11 9 fun r6 =>
    ck_ (166 + v1) fun x13 =>
    aI_ M r6 0 x13 fun x14 =>
    if x14 ≤ v3 then (
      kx38 v2 M
    ) else (
      gR_ M a0 11 17 fun r20 =>
      ob_ M a0 11 <| cl_ (k_M_letterOf a0 v1 v3 M) fun c26 M =>
      aI_ M r20 0 c26 fun x29 =>
      ck_ (v2 + x29) fun x30 =>
      lt_ x30 fun v2_31 =>
      ck_ (v3 + 1) fun v3_32 =>
      lp_M_longBy_4 kx38 a0 v1 f v2_31 v3_32 M
    )

def k_M_longBy (a0 : Nat) (v1 : Int) (M : mm_T) : Option (Int × mm_T) :=
  lt_ (0 : Int) fun v2_1 =>
  lt_ (0 : Int) fun v3_3 =>
  lp_M_longBy_4
    (fun (v2_38 : Int) (M : mm_T) =>
      some (v2_38, M)
    )
    a0 v1 FU_ v2_1 v3_3 M
def lp_M_fitsAt_6 (kx26 : mm_T → Option (Int × mm_T)) (a0 : Nat) : Nat → Int → mm_T → Option (Int × mm_T)
  | 0, _, _ => none
  | f + 1, v5, M =>
    if 3 ≤ v5 then (
      kx26 M
    ) else (
      gR_ M a0 11 18 fun r13 =>
      sI_ M r13 v5 (-1) fun M =>
      ck_ (v5 + 1) fun v5_20 =>
      lp_M_fitsAt_6 kx26 a0 f v5_20 M
    )

def lp_M_fitsAt_76 (kx118 : mm_T → Option (Int × mm_T)) (a0 : Nat) (a1 : Nat) (v4 : Int) (v6 : Int) : Nat → Int → mm_T → Option (Int × mm_T)
  | 0, _, _ => none
  | f + 1, v7, M =>
    gR_ M a0 11 17 fun r79 =>
    aI_ M r79 0 v6 fun x84 =>
    if x84 ≤ v7 then (
      kx118 M
    ) else (
      gR_ M a0 11 18 fun r90 =>
      aI_ M r90 0 v6 fun x95 =>
      ck_ (x95 + v7) fun x98 =>
      aI_ M a1 0 x98 fun x99 =>
      ck_ (v4 + v7) fun x105 =>
      aI_ M a1 0 x105 fun x106 =>
      if x99 = x106 then (
        ck_ (v7 + 1) fun v7_112 =>
        lp_M_fitsAt_76 kx118 a0 a1 v4 v6 f v7_112 M
      ) else (
        zz_ 0 (some (0, M))
      )
    )

def lp_M_fitsAt_29 (kx136 : mm_T → Option (Int × mm_T)) (a0 : Nat) (a1 : Nat) (v3 : Int) : Nat → Int → Int → mm_T → Option (Int × mm_T)
  | 0, _, _, _ => none
  | f + 1, v4, v5, M =>
    gR_ M a0 11 9 fun r32 =>
    ck_ (166 + v3) fun x39 =>
    aI_ M r32 0 x39 fun x40 =>
    if x40 ≤ v5 then (
      kx136 M
    ) else (
      ob_ M a0 11 <| cl_ (k_M_letterOf a0 v3 v5 M) fun c48 M =>
      lt_ c48 fun v6_51 =>
      gR_ M a0 11 18 fun r54 =>
      aI_ M r54 0 v6_51 fun x59 =>
      jn_ (fun (M : mm_T) =>
        lt_ (0 : Int) fun v7_74 =>
        lp_M_fitsAt_76
          (fun (M : mm_T) =>
            gR_ M a0 11 17 fun r121 =>
            aI_ M r121 0 v6_51 fun x126 =>
            ck_ (v4 + x126) fun x127 =>
            lt_ x127 fun v4_128 =>
            ck_ (v5 + 1) fun v5_130 =>
            lp_M_fitsAt_29 kx136 a0 a1 v3 f v4_128 v5_130 M
          )
          a0 a1 v4 v6_51 FU_ v7_74 M
      ) fun j73 =>
      if ¬ x59 = (-1) then (
        j73 M
      ) else (
        gR_ M a0 11 18 fun r65 =>
        sI_ M r65 v6_51 v4 fun M =>
        j73 M
      )
    )

def k_M_fitsAt (a0 : Nat) (a1 : Nat) (v2 : Int) (v3 : Int) (M : mm_T) : Option (Int × mm_T) :=
  lt_ v2 fun v4_1 =>
  lt_ (0 : Int) fun v5_4 =>
  lp_M_fitsAt_6
    (fun (M : mm_T) =>
      lt_ (0 : Int) fun v5_27 =>
      lp_M_fitsAt_29
        (fun (M : mm_T) =>
          zz_ 1 (some (1, M))
        )
        a0 a1 v3 FU_ v4_1 v5_27 M
    )
    a0 FU_ v5_4 M
def lp_M_nextSizes_2 (kx52 : mm_T → Option (Int × mm_T)) (a0 : Nat) (v1 : Int) (v2 : Int) : Nat → Int → mm_T → Option (Int × mm_T)
  | 0, _, _ => none
  | f + 1, v3, M =>
    if v3 < 0 then (
      kx52 M
    ) else (
      ob_ M a0 11 <| cl_ (k_M_hasLetter a0 v1 v3 M) fun c9 M =>
      jn_ (fun (M : mm_T) =>
        ck_ (v3 + (-1)) fun v3_46 =>
        lp_M_nextSizes_2 kx52 a0 v1 v2 f v3_46 M
      ) fun j46 =>
      if ¬ c9 = 0 then (
        gR_ M a0 11 17 fun r19 =>
        aI_ M r19 0 v3 fun x24 =>
        ck_ (x24 + 1) fun x26 =>
        sI_ M r19 v3 x26 fun M =>
        ob_ M a0 11 <| cl_ (k_M_longBy a0 v1 M) fun c30 M =>
        if v2 < c30 then (
          gR_ M a0 11 17 fun r40 =>
          sI_ M r40 v3 1 fun M =>
          j46 M
        ) else (
          zz_ 1 (some (1, M))
        )
      ) else (
        j46 M
      )
    )

def k_M_nextSizes (a0 : Nat) (v1 : Int) (v2 : Int) (M : mm_T) : Option (Int × mm_T) :=
  lt_ (2 : Int) fun v3_1 =>
  lp_M_nextSizes_2
    (fun (M : mm_T) =>
      zz_ 0 (some (0, M))
    )
    a0 v1 v2 FU_ v3_1 M
def lp_M_firstSizes_2 (kx33 : mm_T → Option (Int × mm_T)) (a0 : Nat) (v1 : Int) : Nat → Int → mm_T → Option (Int × mm_T)
  | 0, _, _ => none
  | f + 1, v3, M =>
    if 3 ≤ v3 then (
      kx33 M
    ) else (
      gR_ M a0 11 17 fun r8 =>
      ob_ M a0 11 <| cl_ (k_M_hasLetter a0 v1 v3 M) fun c15 M =>
      jn_ (fun (sa0_26 : Nat) (s1_26 : Int) (s2_26 : Int) (M : mm_T) =>
        sI_ M sa0_26 s1_26 s2_26 fun M =>
        ck_ (v3 + 1) fun v3_27 =>
        lp_M_firstSizes_2 kx33 a0 v1 f v3_27 M
      ) fun j26 =>
      if c15 = 0 then (
        j26 r8 v3 0 M
      ) else (
        j26 r8 v3 1 M
      )
    )

def k_M_firstSizes (a0 : Nat) (v1 : Int) (v2 : Int) (M : mm_T) : Option (Int × mm_T) :=
  lt_ (0 : Int) fun v3_1 =>
  lp_M_firstSizes_2
    (fun (M : mm_T) =>
      ob_ M a0 11 <| cl_ (k_M_longBy a0 v1 M) fun c35 M =>
      if v2 < c35 then (
        zz_ 0 (some (0, M))
      ) else (
        zz_ 1 (some (1, M))
      )
    )
    a0 v1 FU_ v3_1 M
def lp_M_endsBy_8 (kx42 : mm_T → Option (Int × mm_T)) (a0 : Nat) (a1 : Nat) (v2 : Int) (v3 : Int) : Nat → Int → mm_T → Option (Int × mm_T)
  | 0, _, _ => none
  | f + 1, v4, M =>
    if v4 = 0 then (
      kx42 M
    ) else (
      ob_ M a0 11 <| cl_ (k_M_longBy a0 v3 M) fun c18 M =>
      ck_ (v2 - c18) fun x21 =>
      ob_ M a0 11 <| cl_ (k_M_fitsAt a0 a1 x21 v3 M) fun c23 M =>
      if c23 = 0 then (
        ob_ M a0 11 <| cl_ (k_M_nextSizes a0 v3 v2 M) fun c34 M =>
        lt_ c34 fun v4_37 =>
        lp_M_endsBy_8 kx42 a0 a1 v2 v3 f v4_37 M
      ) else (
        zz_ 1 (some (1, M))
      )
    )

def k_M_endsBy (a0 : Nat) (a1 : Nat) (v2 : Int) (v3 : Int) (M : mm_T) : Option (Int × mm_T) :=
  ob_ M a0 11 <| cl_ (k_M_firstSizes a0 v3 v2 M) fun c3 M =>
  lt_ c3 fun v4_6 =>
  lp_M_endsBy_8
    (fun (M : mm_T) =>
      zz_ 0 (some (0, M))
    )
    a0 a1 v2 v3 FU_ v4_6 M
def lp_M_goesOn_13 (kx55 : mm_T → Option (Int × mm_T)) (a0 : Nat) (a1 : Nat) (v2 : Int) : Nat → Int → mm_T → Option (Int × mm_T)
  | 0, _, _ => none
  | f + 1, v3, M =>
    gR_ M a0 11 9 fun r15 =>
    aI_ M r15 0 5 fun x19 =>
    if x19 ≤ v3 then (
      kx55 M
    ) else (
      gR_ M a0 11 9 fun r24 =>
      ck_ (194 + v3) fun x31 =>
      aI_ M r24 0 x31 fun x32 =>
      jn_ (fun (M : mm_T) =>
        ck_ (v3 + 1) fun v3_49 =>
        lp_M_goesOn_13 kx55 a0 a1 v2 f v3_49 M
      ) fun j49 =>
      if ¬ x32 = 1 then (
        j49 M
      ) else (
        ob_ M a0 11 <| cl_ (k_M_endsBy a0 a1 v2 v3 M) fun c41 M =>
        if c41 = 0 then (
          j49 M
        ) else (
          zz_ 0 (some (0, M))
        )
      )
    )

def k_M_goesOn (a0 : Nat) (a1 : Nat) (v2 : Int) (M : mm_T) : Option (Int × mm_T) :=
  ob_ M a0 11 <| cl_ (k_M_isRepeated a0 a1 v2 M) fun c3 M =>
  if c3 = 0 then (
    lt_ (0 : Int) fun v3_12 =>
    lp_M_goesOn_13
      (fun (M : mm_T) =>
        zz_ 1 (some (1, M))
      )
      a0 a1 v2 FU_ v3_12 M
  ) else (
    zz_ 0 (some (0, M))
  )
def lp_M_freeOf_2 (kx24 : Int → mm_T → Option (Int × mm_T)) (a0 : Nat) (a1 : Nat) (v2 : Int) : Nat → Int → mm_T → Option (Int × mm_T)
  | 0, _, _ => none
  | f + 1, v3, M =>
    if v2 ≤ v3 then (
      kx24 v3 M
    ) else (
      ck_ (v3 + 1) fun x11 =>
      ob_ M a0 11 <| cl_ (k_M_goesOn a0 a1 x11 M) fun c12 M =>
      if c12 = 0 then (
        kx24 v3 M
      ) else (
        ck_ (v3 + 1) fun v3_18 =>
        lp_M_freeOf_2 kx24 a0 a1 v2 f v3_18 M
      )
    )

def k_M_freeOf (a0 : Nat) (a1 : Nat) (v2 : Int) (M : mm_T) : Option (Int × mm_T) :=
  lt_ (0 : Int) fun v3_1 =>
  lp_M_freeOf_2
    (fun (v3_24 : Int) (M : mm_T) =>
      some (v3_24, M)
    )
    a0 a1 v2 FU_ v3_1 M
def k_M_isFree (a0 : Nat) (M : mm_T) : Option (Int × mm_T) :=
  gR_ M a0 11 12 fun r2 =>
  gI_ M a0 11 14 fun x6 =>
  ob_ M a0 11 <| cl_ (k_M_freeOf a0 r2 x6 M) fun c9 M =>
  gI_ M a0 11 14 fun x13 =>
  if ¬ c9 = x13 then (
    zz_ 0 (some (0, M))
  ) else (
    zz_ 1 (some (1, M))
  )
def k_M_free (a0 : Nat) (M : mm_T) : Option (Int × mm_T) :=
  pI_ M a0 11 0 0 fun M =>
  ob_ M a0 11 <| cl_ (k_M_isFree a0 M) fun c6 M =>
  zz_ c6 (some (c6, M))
def k_M_endsAt (a0 : Nat) (M : mm_T) : Option (Int × mm_T) :=
  gR_ M a0 11 12 fun r2 =>
  gI_ M a0 11 14 fun x6 =>
  ob_ M a0 11 <| cl_ (k_M_freeOf a0 r2 x6 M) fun c9 M =>
  lt_ c9 fun v1_12 =>
  gI_ M a0 11 14 fun x15 =>
  if ¬ v1_12 = x15 then (
    some (v1_12, M)
  ) else (
    some ((-1), M)
  )
def k_M_ends (a0 : Nat) (M : mm_T) : Option (Int × mm_T) :=
  pI_ M a0 11 0 0 fun M =>
  ob_ M a0 11 <| cl_ (k_M_endsAt a0 M) fun c6 M =>
  some (c6, M)
def lp_M_laysGiven_2 (kx25 : mm_T → Option (Unit × mm_T)) (a0 : Nat) (v1 : Int) : Nat → Int → mm_T → Option (Unit × mm_T)
  | 0, _, _ => none
  | f + 1, v2, M =>
    if v1 ≤ v2 then (
      kx25 M
    ) else (
      gR_ M a0 11 13 fun r8 =>
      gR_ M a0 11 12 fun r13 =>
      aI_ M r13 0 v2 fun x17 =>
      sI_ M r8 v2 x17 fun M =>
      ck_ (v2 + 1) fun v2_19 =>
      lp_M_laysGiven_2 kx25 a0 v1 f v2_19 M
    )

def k_M_laysGiven (a0 : Nat) (v1 : Int) (M : mm_T) : Option (Unit × mm_T) :=
  lt_ (0 : Int) fun v2_1 =>
  lp_M_laysGiven_2
    (fun (M : mm_T) =>
      some ((), M)
    )
    a0 v1 FU_ v2_1 M
def lp_M_goes_35 (kx88 : Int → mm_T → Option (Int × mm_T)) (a0 : Nat) : Nat → Int → Int → mm_T → Option (Int × mm_T)
  | 0, _, _, _ => none
  | f + 1, v1, v2, M =>
    gR_ M a0 11 9 fun r37 =>
    aI_ M r37 0 0 fun x41 =>
    if x41 ≤ v2 then (
      kx88 v1 M
    ) else (
      gR_ M a0 11 13 fun r46 =>
      gI_ M a0 11 14 fun x50 =>
      sI_ M r46 x50 v2 fun M =>
      gR_ M a0 11 13 fun r58 =>
      gI_ M a0 11 14 fun x62 =>
      ck_ (x62 + 1) fun x66 =>
      ob_ M a0 11 <| cl_ (k_M_goesOn a0 r58 x66 M) fun c67 M =>
      jn_ (fun (s0_80 : Int) (s1_80 : Int) (M : mm_T) =>
        lt_ (or_ s0_80 s1_80) fun v1_81 =>
        ck_ (v2 + 1) fun v2_82 =>
        lp_M_goes_35 kx88 a0 f v1_81 v2_82 M
      ) fun j80 =>
      if c67 = 0 then (
        j80 v1 0 M
      ) else (
        j80 v1 (shl_ 1 v2) M
      )
    )

def k_M_goes (a0 : Nat) (M : mm_T) : Option (Int × mm_T) :=
  pI_ M a0 11 0 0 fun M =>
  gI_ M a0 11 14 fun x6 =>
  if x6 = 64 then (
    some (0, M)
  ) else (
    ob_ M a0 11 <| cl_ (k_M_isFree a0 M) fun c15 M =>
    if ¬ c15 = 0 then (
      gI_ M a0 11 14 fun x25 =>
      ob_ M a0 11 <| cl_ (k_M_laysGiven a0 x25 M) fun _ M =>
      lt_ (0 : Int) fun v1_32 =>
      lt_ (0 : Int) fun v2_34 =>
      lp_M_goes_35
        (fun (v1_88 : Int) (M : mm_T) =>
          some (v1_88, M)
        )
        a0 FU_ v1_32 v2_34 M
    ) else (
      some (0, M)
    )
  )
def lp_M_ahead_18 (kx46 : mm_T → Option (Int × mm_T)) (a0 : Nat) : Nat → Int → mm_T → Option (Int × mm_T)
  | 0, _, _ => none
  | f + 1, v1, M =>
    gI_ M a0 11 14 fun x20 =>
    if x20 ≤ v1 then (
      kx46 M
    ) else (
      gR_ M a0 11 13 fun r27 =>
      ck_ (v1 + 1) fun x32 =>
      gR_ M a0 11 12 fun r34 =>
      aI_ M r34 0 v1 fun x38 =>
      sI_ M r27 x32 x38 fun M =>
      ck_ (v1 + 1) fun v1_40 =>
      lp_M_ahead_18 kx46 a0 f v1_40 M
    )

def lp_M_ahead_50 (kx106 : Int → mm_T → Option (Int × mm_T)) (a0 : Nat) : Nat → Int → Int → mm_T → Option (Int × mm_T)
  | 0, _, _, _ => none
  | f + 1, v1, v2, M =>
    gR_ M a0 11 9 fun r52 =>
    aI_ M r52 0 0 fun x56 =>
    if x56 ≤ v2 then (
      kx106 v1 M
    ) else (
      gR_ M a0 11 13 fun r61 =>
      sI_ M r61 0 v2 fun M =>
      gR_ M a0 11 13 fun r70 =>
      gI_ M a0 11 14 fun x74 =>
      ck_ (x74 + 1) fun x78 =>
      ob_ M a0 11 <| cl_ (k_M_freeOf a0 r70 x78 M) fun c79 M =>
      gI_ M a0 11 14 fun x83 =>
      ck_ (x83 + 1) fun x87 =>
      jn_ (fun (s0_98 : Int) (s1_98 : Int) (M : mm_T) =>
        lt_ (or_ s0_98 s1_98) fun v1_99 =>
        ck_ (v2 + 1) fun v2_100 =>
        lp_M_ahead_50 kx106 a0 f v1_99 v2_100 M
      ) fun j98 =>
      if ¬ c79 = x87 then (
        j98 v1 0 M
      ) else (
        j98 v1 (shl_ 1 v2) M
      )
    )

def k_M_ahead (a0 : Nat) (M : mm_T) : Option (Int × mm_T) :=
  pI_ M a0 11 0 0 fun M =>
  gI_ M a0 11 14 fun x6 =>
  if ¬ x6 = 64 then (
    lt_ (0 : Int) fun v1_17 =>
    lp_M_ahead_18
      (fun (M : mm_T) =>
        lt_ (0 : Int) fun v1_47 =>
        lt_ (0 : Int) fun v2_49 =>
        lp_M_ahead_50
          (fun (v1_106 : Int) (M : mm_T) =>
            some (v1_106, M)
          )
          a0 FU_ v1_47 v2_49 M
      )
      a0 FU_ v1_17 M
  ) else (
    some (0, M)
  )
def lp_M_periodOf_10 (kx45 : Int → mm_T → Option (Int × mm_T)) (a0 : Nat) (v1 : Int) (v2 : Int) (v3 : Int) : Nat → Int → mm_T → Option (Int × mm_T)
  | 0, _, _ => none
  | f + 1, v4, M =>
    if v2 ≤ v4 then (
      kx45 v4 M
    ) else (
      gR_ M a0 11 12 fun r17 =>
      ck_ (v1 + v4) fun x23 =>
      aI_ M r17 0 x23 fun x24 =>
      gR_ M a0 11 12 fun r26 =>
      ck_ (v1 + v4) fun x32 =>
      ck_ (x32 - v3) fun x34 =>
      aI_ M r26 0 x34 fun x35 =>
      if ¬ x24 = x35 then (
        kx45 v4 M
      ) else (
        ck_ (v4 + 1) fun v4_39 =>
        lp_M_periodOf_10 kx45 a0 v1 v2 v3 f v4_39 M
      )
    )

def lp_M_periodOf_2 (kx59 : mm_T → Option (Int × mm_T)) (a0 : Nat) (v1 : Int) (v2 : Int) : Nat → Int → mm_T → Option (Int × mm_T)
  | 0, _, _ => none
  | f + 1, v3, M =>
    if v2 ≤ v3 then (
      kx59 M
    ) else (
      lt_ v3 fun v4_8 =>
      lp_M_periodOf_10
        (fun (v4_45 : Int) (M : mm_T) =>
          if ¬ v4_45 = v2 then (
            ck_ (v3 + 1) fun v3_53 =>
            lp_M_periodOf_2 kx59 a0 v1 v2 f v3_53 M
          ) else (
            some (v3, M)
          )
        )
        a0 v1 v2 v3 FU_ v4_8 M
    )

def k_M_periodOf (a0 : Nat) (v1 : Int) (v2 : Int) (M : mm_T) : Option (Int × mm_T) :=
  lt_ (1 : Int) fun v3_1 =>
  lp_M_periodOf_2
    (fun (M : mm_T) =>
      some (v2, M)
    )
    a0 v1 v2 FU_ v3_1 M
def lp_M_greatest_69 (kx144 : Int → Int → Int → mm_T → Option (Int × mm_T)) (a0 : Nat) (v5 : Int) : Nat → Int → Int → Int → Int → mm_T → Option (Int × mm_T)
  | 0, _, _, _, _, _ => none
  | f + 1, v2, v3, v4, v6, M =>
    gI_ M a0 11 14 fun x72 =>
    ck_ (x72 - v5) fun x77 =>
    if x77 < v6 then (
      kx144 v2 v3 v4 M
    ) else (
      ob_ M a0 11 <| cl_ (k_M_periodOf a0 v5 v6 M) fun c86 M =>
      lt_ c86 fun v7_89 =>
      ck_ (v6 * v3) fun x94 =>
      ck_ (v2 * v7_89) fun x98 =>
      ck_ (x94 - x98) fun x99 =>
      lt_ x99 fun v8_100 =>
      jn_ (fun (v2_138 : Int) (v3_138 : Int) (v4_138 : Int) (M : mm_T) =>
        ck_ (v6 + 1) fun v6_138 =>
        lp_M_greatest_69 kx144 a0 v5 f v2_138 v3_138 v4_138 v6_138 M
      ) fun j138 =>
      if v8_100 < 0 then (
        j138 v2 v3 v4 M
      ) else (
        jn_ (fun (M : mm_T) =>
          lt_ v6 fun v2_130 =>
          lt_ v7_89 fun v3_133 =>
          lt_ v5 fun v4_136 =>
          j138 v2_130 v3_133 v4_136 M
        ) fun j128 =>
        if ¬ v8_100 = 0 then (
          j128 M
        ) else (
          if ¬ v5 = v4 then (
            j138 v2 v3 v4 M
          ) else (
            if v2 < v6 then (
              j128 M
            ) else (
              j138 v2 v3 v4 M
            )
          )
        )
      )
    )

def lp_M_greatest_57 (kx150 : Int → Int → Int → mm_T → Option (Int × mm_T)) (a0 : Nat) : Nat → Int → Int → Int → Int → mm_T → Option (Int × mm_T)
  | 0, _, _, _, _, _ => none
  | f + 1, v2, v3, v4, v5, M =>
    gI_ M a0 11 14 fun x60 =>
    if x60 ≤ v5 then (
      kx150 v2 v3 v4 M
    ) else (
      lt_ (1 : Int) fun v6_67 =>
      lp_M_greatest_69
        (fun (v2_144 : Int) (v3_144 : Int) (v4_144 : Int) (M : mm_T) =>
          ck_ (v5 + 1) fun v5_144 =>
          lp_M_greatest_57 kx150 a0 f v2_144 v3_144 v4_144 v5_144 M
        )
        a0 v5 FU_ v2 v3 v4 v6_67 M
    )

def k_M_greatest (a0 : Nat) (v1 : Int) (M : mm_T) : Option (Int × mm_T) :=
  pI_ M a0 11 0 0 fun M =>
  cl_ (k_M_in v1 0 2 M) fun c9 M =>
  jn_ (fun (sa0_20 : Nat) (s1_20 : Int) (M : mm_T) =>
    ob_ M sa0_20 11 <| cl_ (k_M_throwsIf sa0_20 s1_20 1 M) fun c21 M =>
    jn_ (fun (M : mm_T) =>
      gI_ M a0 11 0 fun x35 =>
      if x35 ≤ 0 then (
        some ((-1), M)
      ) else (
        some (0, M)
      )
    ) fun j34 =>
    if ¬ c21 = 0 then (
      j34 M
    ) else (
      gI_ M a0 11 14 fun x28 =>
      if ¬ x28 = 0 then (
        lt_ (1 : Int) fun v2_48 =>
        lt_ (1 : Int) fun v3_50 =>
        lt_ (0 : Int) fun v4_52 =>
        lt_ (0 : Int) fun v5_55 =>
        lp_M_greatest_57
          (fun (v2_150 : Int) (v3_150 : Int) (v4_150 : Int) (M : mm_T) =>
            if ¬ v1 = 0 then (
              if ¬ v1 = 1 then (
                some (v4_150, M)
              ) else (
                some (v3_150, M)
              )
            ) else (
              some (v2_150, M)
            )
          )
          a0 FU_ v2_48 v3_50 v4_52 v5_55 M
      ) else (
        j34 M
      )
    )
  ) fun j20 =>
  if ¬ c9 = 0 then (
    j20 a0 0 M
  ) else (
    j20 a0 1 M
  )
def k_M_period (a0 : Nat) (M : mm_T) : Option (Int × mm_T) :=
  pI_ M a0 11 0 0 fun M =>
  gI_ M a0 11 14 fun x6 =>
  if ¬ x6 = 0 then (
    gI_ M a0 11 14 fun x19 =>
    ob_ M a0 11 <| cl_ (k_M_periodOf a0 0 x19 M) fun c22 M =>
    some (c22, M)
  ) else (
    some ((-1), M)
  )
def lp_M_border_28 (kx76 : Int → mm_T → Option (Int × mm_T)) (a0 : Nat) (v3 : Int) : Nat → Int → Int → mm_T → Option (Int × mm_T)
  | 0, _, _, _ => none
  | f + 1, v4, v5, M =>
    if v3 ≤ v5 then (
      kx76 v4 M
    ) else (
      if v4 = 0 then (
        kx76 v4 M
      ) else (
        gR_ M a0 11 12 fun r40 =>
        aI_ M r40 0 v5 fun x45 =>
        gR_ M a0 11 12 fun r47 =>
        gI_ M a0 11 14 fun x51 =>
        ck_ (x51 - v3) fun x55 =>
        ck_ (x55 + v5) fun x58 =>
        aI_ M r47 0 x58 fun x59 =>
        jn_ (fun (s0_68 : Int) (M : mm_T) =>
          lt_ s0_68 fun v4_68 =>
          ck_ (v5 + 1) fun v5_70 =>
          lp_M_border_28 kx76 a0 v3 f v4_68 v5_70 M
        ) fun j68 =>
        if ¬ x45 = x59 then (
          j68 0 M
        ) else (
          j68 1 M
        )
      )
    )

def lp_M_border_14 (kx99 : mm_T → Option (Int × mm_T)) (a0 : Nat) (v1 : Int) : Nat → Int → Int → mm_T → Option (Int × mm_T)
  | 0, _, _, _ => none
  | f + 1, v2, v3, M =>
    if v3 ≤ 0 then (
      kx99 M
    ) else (
      if v1 < 0 then (
        kx99 M
      ) else (
        lt_ (1 : Int) fun v4_23 =>
        lt_ (0 : Int) fun v5_26 =>
        lp_M_border_28
          (fun (v4_76 : Int) (M : mm_T) =>
            jn_ (fun (v2_93 : Int) (M : mm_T) =>
              ck_ (v3 + (-1)) fun v3_93 =>
              lp_M_border_14 kx99 a0 v1 f v2_93 v3_93 M
            ) fun j93 =>
            if ¬ v4_76 = 0 then (
              if ¬ v2 = 0 then (
                ck_ (v2 + (-1)) fun v2_90 =>
                j93 v2_90 M
              ) else (
                some (v3, M)
              )
            ) else (
              j93 v2 M
            )
          )
          a0 v3 FU_ v4_23 v5_26 M
      )
    )

def k_M_border (a0 : Nat) (v1 : Int) (M : mm_T) : Option (Int × mm_T) :=
  pI_ M a0 11 0 0 fun M =>
  lt_ v1 fun v2_6 =>
  gI_ M a0 11 14 fun x8 =>
  ck_ (x8 - 1) fun x12 =>
  lt_ x12 fun v3_13 =>
  lp_M_border_14
    (fun (M : mm_T) =>
      some ((-1), M)
    )
    a0 v1 FU_ v2_6 v3_13 M
def lp_M_runAt_41 (kx78 : Int → mm_T → Option (Int × mm_T)) (a0 : Nat) (v1 : Int) (v2 : Int) : Nat → Int → mm_T → Option (Int × mm_T)
  | 0, _, _ => none
  | f + 1, v3, M =>
    ck_ (v1 + v3) fun x43 =>
    gI_ M a0 11 14 fun x45 =>
    if x45 ≤ x43 then (
      kx78 v3 M
    ) else (
      gR_ M a0 11 12 fun r52 =>
      ck_ (v1 + v3) fun x57 =>
      aI_ M r52 0 x57 fun x58 =>
      gR_ M a0 11 12 fun r60 =>
      ck_ (v1 + v3) fun x65 =>
      ck_ (x65 - v2) fun x67 =>
      aI_ M r60 0 x67 fun x68 =>
      if ¬ x58 = x68 then (
        kx78 v3 M
      ) else (
        ck_ (v3 + 1) fun v3_72 =>
        lp_M_runAt_41 kx78 a0 v1 v2 f v3_72 M
      )
    )

def k_M_runAt (a0 : Nat) (v1 : Int) (v2 : Int) (M : mm_T) : Option (Int × mm_T) :=
  jn_ (fun (M : mm_T) =>
    lt_ v2 fun v3_40 =>
    lp_M_runAt_41
      (fun (v3_78 : Int) (M : mm_T) =>
        ck_ (2 * v2) fun x81 =>
        jn_ (fun (M : mm_T) =>
          some (0, M)
        ) fun j99 =>
        if v3_78 < x81 then (
          j99 M
        ) else (
          ob_ M a0 11 <| cl_ (k_M_periodOf a0 v1 v3_78 M) fun c88 M =>
          if ¬ c88 = v2 then (
            j99 M
          ) else (
            some (v3_78, M)
          )
        )
      )
      a0 v1 v2 FU_ v3_40 M
  ) fun j39 =>
  if v1 ≤ 0 then (
    j39 M
  ) else (
    ck_ (v1 + v2) fun x6 =>
    ck_ (x6 - 1) fun x8 =>
    gI_ M a0 11 14 fun x10 =>
    if x10 ≤ x8 then (
      j39 M
    ) else (
      gR_ M a0 11 12 fun r17 =>
      ck_ (v1 - 1) fun x22 =>
      aI_ M r17 0 x22 fun x23 =>
      gR_ M a0 11 12 fun r25 =>
      ck_ (v1 + v2) fun x30 =>
      ck_ (x30 - 1) fun x32 =>
      aI_ M r25 0 x32 fun x33 =>
      if ¬ x23 = x33 then (
        j39 M
      ) else (
        some (0, M)
      )
    )
  )
def lp_M_run_46 (kx114 : Int → mm_T → Option (Int × mm_T)) (a0 : Nat) (v1 : Int) (v2 : Int) (v4 : Int) : Nat → Int → Int → mm_T → Option (Int × mm_T)
  | 0, _, _, _ => none
  | f + 1, v3, v5, M =>
    ck_ (2 * v5) fun x49 =>
    gI_ M a0 11 14 fun x51 =>
    ck_ (x51 - v4) fun x56 =>
    if x56 < x49 then (
      kx114 v3 M
    ) else (
      ob_ M a0 11 <| cl_ (k_M_runAt a0 v4 v5 M) fun c65 M =>
      lt_ c65 fun v6_68 =>
      jn_ (fun (v3_108 : Int) (M : mm_T) =>
        ck_ (v5 + 1) fun v5_108 =>
        lp_M_run_46 kx114 a0 v1 v2 v4 f v3_108 v5_108 M
      ) fun j108 =>
      if ¬ v6_68 = 0 then (
        if ¬ v3 = v1 then (
          ck_ (v3 + 1) fun v3_105 =>
          j108 v3_105 M
        ) else (
          if ¬ v2 = 0 then (
            if ¬ v2 = 1 then (
              some (v5, M)
            ) else (
              some (v6_68, M)
            )
          ) else (
            some (v4, M)
          )
        )
      ) else (
        j108 v3 M
      )
    )

def lp_M_run_34 (kx120 : Int → mm_T → Option (Int × mm_T)) (a0 : Nat) (v1 : Int) (v2 : Int) : Nat → Int → Int → mm_T → Option (Int × mm_T)
  | 0, _, _, _ => none
  | f + 1, v3, v4, M =>
    gI_ M a0 11 14 fun x37 =>
    if x37 ≤ v4 then (
      kx120 v3 M
    ) else (
      lt_ (1 : Int) fun v5_44 =>
      lp_M_run_46
        (fun (v3_114 : Int) (M : mm_T) =>
          ck_ (v4 + 1) fun v4_114 =>
          lp_M_run_34 kx120 a0 v1 v2 f v3_114 v4_114 M
        )
        a0 v1 v2 v4 FU_ v3 v5_44 M
    )

def k_M_run (a0 : Nat) (v1 : Int) (v2 : Int) (M : mm_T) : Option (Int × mm_T) :=
  pI_ M a0 11 0 0 fun M =>
  cl_ (k_M_in v2 0 2 M) fun c9 M =>
  jn_ (fun (sa0_20 : Nat) (s1_20 : Int) (M : mm_T) =>
    ob_ M sa0_20 11 <| cl_ (k_M_throwsIf sa0_20 s1_20 1 M) fun c21 M =>
    if c21 = 0 then (
      lt_ (0 : Int) fun v3_30 =>
      lt_ (0 : Int) fun v4_32 =>
      lp_M_run_34
        (fun (v3_120 : Int) (M : mm_T) =>
          if ¬ v1 = (-1) then (
            some ((-1), M)
          ) else (
            some (v3_120, M)
          )
        )
        a0 v1 v2 FU_ v3_30 v4_32 M
    ) else (
      some (0, M)
    )
  ) fun j20 =>
  if ¬ c9 = 0 then (
    j20 a0 0 M
  ) else (
    j20 a0 1 M
  )
def lp_M_areAlike_3 (kx38 : mm_T → Option (Int × mm_T)) (a0 : Nat) (v1 : Int) (v2 : Int) (v3 : Int) : Nat → Int → mm_T → Option (Int × mm_T)
  | 0, _, _ => none
  | f + 1, v4, M =>
    if v3 ≤ v4 then (
      kx38 M
    ) else (
      gR_ M a0 11 12 fun r10 =>
      ck_ (v1 + v4) fun x16 =>
      aI_ M r10 0 x16 fun x17 =>
      gR_ M a0 11 12 fun r19 =>
      ck_ (v2 + v4) fun x25 =>
      aI_ M r19 0 x25 fun x26 =>
      if x17 = x26 then (
        ck_ (v4 + 1) fun v4_32 =>
        lp_M_areAlike_3 kx38 a0 v1 v2 v3 f v4_32 M
      ) else (
        zz_ 0 (some (0, M))
      )
    )

def k_M_areAlike (a0 : Nat) (v1 : Int) (v2 : Int) (v3 : Int) (M : mm_T) : Option (Int × mm_T) :=
  lt_ (0 : Int) fun v4_1 =>
  lp_M_areAlike_3
    (fun (M : mm_T) =>
      zz_ 1 (some (1, M))
    )
    a0 v1 v2 v3 FU_ v4_1 M
def lp_M_factors_50 (kx85 : Int → mm_T → Option (Int × mm_T)) (a0 : Nat) (v1 : Int) (v3 : Int) : Nat → Int → Int → mm_T → Option (Int × mm_T)
  | 0, _, _, _ => none
  | f + 1, v4, v5, M =>
    if v3 ≤ v5 then (
      kx85 v4 M
    ) else (
      jn_ (fun (s0_77 : Int) (M : mm_T) =>
        lt_ s0_77 fun v4_77 =>
        ck_ (v5 + 1) fun v5_79 =>
        lp_M_factors_50 kx85 a0 v1 v3 f v4_77 v5_79 M
      ) fun j77 =>
      jn_ (fun (M : mm_T) =>
        j77 1 M
      ) fun j72 =>
      if ¬ v4 = 0 then (
        j72 M
      ) else (
        ob_ M a0 11 <| cl_ (k_M_areAlike a0 v3 v5 v1 M) fun c66 M =>
        if c66 = 0 then (
          j77 0 M
        ) else (
          j72 M
        )
      )
    )

def lp_M_factors_34 (kx104 : Int → mm_T → Option (Int × mm_T)) (a0 : Nat) (v1 : Int) : Nat → Int → Int → mm_T → Option (Int × mm_T)
  | 0, _, _, _ => none
  | f + 1, v2, v3, M =>
    ck_ (v3 + v1) fun x36 =>
    gI_ M a0 11 14 fun x38 =>
    if x38 < x36 then (
      kx104 v2 M
    ) else (
      lt_ (0 : Int) fun v4_45 =>
      lt_ (0 : Int) fun v5_48 =>
      lp_M_factors_50
        (fun (v4_85 : Int) (M : mm_T) =>
          jn_ (fun (s0_96 : Int) (s1_96 : Int) (M : mm_T) =>
            ck_ (s0_96 + s1_96) fun x96 =>
            lt_ x96 fun v2_97 =>
            ck_ (v3 + 1) fun v3_98 =>
            lp_M_factors_34 kx104 a0 v1 f v2_97 v3_98 M
          ) fun j96 =>
          if v4_85 = 0 then (
            j96 v2 1 M
          ) else (
            j96 v2 0 M
          )
        )
        a0 v1 v3 FU_ v4_45 v5_48 M
    )

def k_M_factors (a0 : Nat) (v1 : Int) (M : mm_T) : Option (Int × mm_T) :=
  pI_ M a0 11 0 0 fun M =>
  cl_ (k_M_in v1 1 64 M) fun c10 M =>
  jn_ (fun (sa0_21 : Nat) (s1_21 : Int) (M : mm_T) =>
    ob_ M sa0_21 11 <| cl_ (k_M_throwsIf sa0_21 s1_21 1 M) fun c22 M =>
    if c22 = 0 then (
      lt_ (0 : Int) fun v2_31 =>
      lt_ (0 : Int) fun v3_33 =>
      lp_M_factors_34
        (fun (v2_104 : Int) (M : mm_T) =>
          some (v2_104, M)
        )
        a0 v1 FU_ v2_31 v3_33 M
    ) else (
      some (0, M)
    )
  ) fun j21 =>
  if ¬ c10 = 0 then (
    j21 a0 0 M
  ) else (
    j21 a0 1 M
  )
def lp_M_mirror_30 (kx68 : Int → mm_T → Option (Int × mm_T)) (a0 : Nat) (v2 : Int) (v3 : Int) : Nat → Int → mm_T → Option (Int × mm_T)
  | 0, _, _ => none
  | f + 1, v4, M =>
    ck_ (v2 + v4) fun x33 =>
    ck_ (v3 - v4) fun x37 =>
    if x37 ≤ x33 then (
      kx68 v4 M
    ) else (
      gR_ M a0 11 12 fun r42 =>
      ck_ (v2 + v4) fun x48 =>
      aI_ M r42 0 x48 fun x49 =>
      gR_ M a0 11 12 fun r51 =>
      ck_ (v3 - v4) fun x57 =>
      aI_ M r51 0 x57 fun x58 =>
      if ¬ x49 = x58 then (
        kx68 v4 M
      ) else (
        ck_ (v4 + 1) fun v4_62 =>
        lp_M_mirror_30 kx68 a0 v2 v3 f v4_62 M
      )
    )

def lp_M_mirror_19 (kx95 : Int → mm_T → Option (Int × mm_T)) (a0 : Nat) (v2 : Int) : Nat → Int → Int → mm_T → Option (Int × mm_T)
  | 0, _, _, _ => none
  | f + 1, v1, v3, M =>
    gI_ M a0 11 14 fun x21 =>
    if x21 ≤ v3 then (
      kx95 v1 M
    ) else (
      lt_ (0 : Int) fun v4_28 =>
      lp_M_mirror_30
        (fun (v4_68 : Int) (M : mm_T) =>
          ck_ (v2 + v4_68) fun x71 =>
          ck_ (v3 - v4_68) fun x75 =>
          jn_ (fun (v1_89 : Int) (M : mm_T) =>
            ck_ (v3 + 1) fun v3_89 =>
            lp_M_mirror_19 kx95 a0 v2 f v1_89 v3_89 M
          ) fun j89 =>
          if x71 < x75 then (
            j89 v1 M
          ) else (
            ck_ (v3 - v2) fun x82 =>
            ck_ (x82 + 1) fun x84 =>
            lt_ (mx_ v1 x84) fun v1_88 =>
            j89 v1_88 M
          )
        )
        a0 v2 v3 FU_ v4_28 M
    )

def lp_M_mirror_9 (kx101 : Int → mm_T → Option (Int × mm_T)) (a0 : Nat) : Nat → Int → Int → mm_T → Option (Int × mm_T)
  | 0, _, _, _ => none
  | f + 1, v1, v2, M =>
    gI_ M a0 11 14 fun x11 =>
    if x11 ≤ v2 then (
      kx101 v1 M
    ) else (
      lt_ v2 fun v3_18 =>
      lp_M_mirror_19
        (fun (v1_95 : Int) (M : mm_T) =>
          ck_ (v2 + 1) fun v2_95 =>
          lp_M_mirror_9 kx101 a0 f v1_95 v2_95 M
        )
        a0 v2 FU_ v1 v3_18 M
    )

def k_M_mirror (a0 : Nat) (M : mm_T) : Option (Int × mm_T) :=
  pI_ M a0 11 0 0 fun M =>
  lt_ (0 : Int) fun v1_6 =>
  lt_ (0 : Int) fun v2_8 =>
  lp_M_mirror_9
    (fun (v1_101 : Int) (M : mm_T) =>
      some (v1_101, M)
    )
    a0 FU_ v1_6 v2_8 M
def lp_M_lyndon_25 (kx84 : Int → Int → mm_T → Option (Int × mm_T)) (a0 : Nat) (v3 : Int) : Nat → Int → Int → mm_T → Option (Int × mm_T)
  | 0, _, _, _ => none
  | f + 1, v4, v5, M =>
    gI_ M a0 11 14 fun x28 =>
    if x28 ≤ v5 then (
      kx84 v4 v5 M
    ) else (
      gR_ M a0 11 12 fun r35 =>
      aI_ M r35 0 v4 fun x40 =>
      gR_ M a0 11 12 fun r42 =>
      aI_ M r42 0 v5 fun x47 =>
      if x47 < x40 then (
        kx84 v4 v5 M
      ) else (
        gR_ M a0 11 12 fun r52 =>
        aI_ M r52 0 v4 fun x57 =>
        gR_ M a0 11 12 fun r59 =>
        aI_ M r59 0 v5 fun x64 =>
        jn_ (fun (s0_76 : Int) (M : mm_T) =>
          lt_ s0_76 fun v4_76 =>
          ck_ (v5 + 1) fun v5_78 =>
          lp_M_lyndon_25 kx84 a0 v3 f v4_76 v5_78 M
        ) fun j76 =>
        if ¬ x57 = x64 then (
          j76 v3 M
        ) else (
          ck_ (v4 + 1) fun x71 =>
          j76 x71 M
        )
      )
    )

def lp_M_lyndon_91 (kx116 : Int → Int → mm_T → Option (Int × mm_T)) (v1 : Int) (v4 : Int) (v6 : Int) : Nat → Int → Int → mm_T → Option (Int × mm_T)
  | 0, _, _, _ => none
  | f + 1, v2, v3, M =>
    if v4 < v3 then (
      kx116 v2 v3 M
    ) else (
      if ¬ v2 = v1 then (
        ck_ (v2 + 1) fun v2_105 =>
        ck_ (v3 + v6) fun x111 =>
        lt_ x111 fun v3_112 =>
        lp_M_lyndon_91 kx116 v1 v4 v6 f v2_105 v3_112 M
      ) else (
        some (v6, M)
      )
    )

def lp_M_lyndon_9 (kx119 : Int → mm_T → Option (Int × mm_T)) (a0 : Nat) (v1 : Int) : Nat → Int → Int → mm_T → Option (Int × mm_T)
  | 0, _, _, _ => none
  | f + 1, v2, v3, M =>
    gI_ M a0 11 14 fun x11 =>
    if x11 ≤ v3 then (
      kx119 v2 M
    ) else (
      lt_ v3 fun v4_18 =>
      ck_ (v3 + 1) fun x22 =>
      lt_ x22 fun v5_23 =>
      lp_M_lyndon_25
        (fun (v4_84 : Int) (v5_84 : Int) (M : mm_T) =>
          ck_ (v5_84 - v4_84) fun x88 =>
          lt_ x88 fun v6_89 =>
          lp_M_lyndon_91
            (fun (v2_116 : Int) (v3_116 : Int) (M : mm_T) =>
              lp_M_lyndon_9 kx119 a0 v1 f v2_116 v3_116 M
            )
            v1 v4_84 v6_89 FU_ v2 v3 M
        )
        a0 v3 FU_ v4_18 v5_23 M
    )

def k_M_lyndon (a0 : Nat) (v1 : Int) (M : mm_T) : Option (Int × mm_T) :=
  pI_ M a0 11 0 0 fun M =>
  lt_ (0 : Int) fun v2_6 =>
  lt_ (0 : Int) fun v3_8 =>
  lp_M_lyndon_9
    (fun (v2_119 : Int) (M : mm_T) =>
      if ¬ v1 = (-1) then (
        some ((-1), M)
      ) else (
        some (v2_119, M)
      )
    )
    a0 v1 FU_ v2_6 v3_8 M
def lp_M_turned_30 (kx73 : Int → mm_T → Option (Int × mm_T)) (a0 : Nat) (v1 : Int) (v2 : Int) : Nat → Int → mm_T → Option (Int × mm_T)
  | 0, _, _ => none
  | f + 1, v3, M =>
    gI_ M a0 11 14 fun x32 =>
    if x32 ≤ v3 then (
      kx73 v3 M
    ) else (
      gR_ M a0 11 12 fun r39 =>
      ck_ (v2 + v3) fun x44 =>
      gI_ M a0 11 14 fun x46 =>
      rm_ x44 x46 fun x49 =>
      aI_ M r39 0 x49 fun x50 =>
      gR_ M a0 11 12 fun r52 =>
      ck_ (v1 + v3) fun x57 =>
      gI_ M a0 11 14 fun x59 =>
      rm_ x57 x59 fun x62 =>
      aI_ M r52 0 x62 fun x63 =>
      if ¬ x50 = x63 then (
        kx73 v3 M
      ) else (
        ck_ (v3 + 1) fun v3_67 =>
        lp_M_turned_30 kx73 a0 v1 v2 f v3_67 M
      )
    )

def lp_M_turned_20 (kx118 : Int → mm_T → Option (Int × mm_T)) (a0 : Nat) : Nat → Int → Int → mm_T → Option (Int × mm_T)
  | 0, _, _, _ => none
  | f + 1, v1, v2, M =>
    gI_ M a0 11 14 fun x22 =>
    if x22 ≤ v2 then (
      kx118 v1 M
    ) else (
      lt_ (0 : Int) fun v3_29 =>
      lp_M_turned_30
        (fun (v3_73 : Int) (M : mm_T) =>
          gI_ M a0 11 14 fun x75 =>
          jn_ (fun (v1_112 : Int) (M : mm_T) =>
            ck_ (v2 + 1) fun v2_112 =>
            lp_M_turned_20 kx118 a0 f v1_112 v2_112 M
          ) fun j112 =>
          if x75 ≤ v3_73 then (
            j112 v1 M
          ) else (
            gR_ M a0 11 12 fun r82 =>
            ck_ (v2 + v3_73) fun x87 =>
            gI_ M a0 11 14 fun x89 =>
            rm_ x87 x89 fun x92 =>
            aI_ M r82 0 x92 fun x93 =>
            gR_ M a0 11 12 fun r95 =>
            ck_ (v1 + v3_73) fun x100 =>
            gI_ M a0 11 14 fun x102 =>
            rm_ x100 x102 fun x105 =>
            aI_ M r95 0 x105 fun x106 =>
            if x106 ≤ x93 then (
              j112 v1 M
            ) else (
              lt_ v2 fun v1_111 =>
              j112 v1_111 M
            )
          )
        )
        a0 v1 v2 FU_ v3_29 M
    )

def k_M_turned (a0 : Nat) (M : mm_T) : Option (Int × mm_T) :=
  pI_ M a0 11 0 0 fun M =>
  gI_ M a0 11 14 fun x6 =>
  jn_ (fun (s0_17 : Int) (M : mm_T) =>
    lt_ s0_17 fun v1_17 =>
    lt_ (1 : Int) fun v2_19 =>
    lp_M_turned_20
      (fun (v1_118 : Int) (M : mm_T) =>
        some (v1_118, M)
      )
      a0 FU_ v1_17 v2_19 M
  ) fun j17 =>
  if ¬ x6 = 0 then (
    j17 0 M
  ) else (
    j17 (-1) M
  )
def lp_M_local_56 (kx108 : Int → mm_T → Option (Int × mm_T)) (a0 : Nat) (v1 : Int) (v2 : Int) : Nat → Int → Int → mm_T → Option (Int × mm_T)
  | 0, _, _, _ => none
  | f + 1, v3, v4, M =>
    if v1 ≤ v4 then (
      kx108 v3 M
    ) else (
      ck_ (v4 + v2) fun x65 =>
      gI_ M a0 11 14 fun x67 =>
      if x67 ≤ x65 then (
        kx108 v3 M
      ) else (
        jn_ (fun (s0_101 : Int) (M : mm_T) =>
          lt_ s0_101 fun v3_101 =>
          ck_ (v4 + 1) fun v4_102 =>
          lp_M_local_56 kx108 a0 v1 v2 f v3_101 v4_102 M
        ) fun j101 =>
        jn_ (fun (M : mm_T) =>
          j101 0 M
        ) fun j100 =>
        if v3 = 0 then (
          j100 M
        ) else (
          gR_ M a0 11 12 fun r78 =>
          aI_ M r78 0 v4 fun x83 =>
          gR_ M a0 11 12 fun r85 =>
          ck_ (v4 + v2) fun x91 =>
          aI_ M r85 0 x91 fun x92 =>
          if ¬ x83 = x92 then (
            j100 M
          ) else (
            j101 1 M
          )
        )
      )
    )

def lp_M_local_38 (kx111 : Int → mm_T → Option (Int × mm_T)) (a0 : Nat) (v1 : Int) : Nat → Int → Int → mm_T → Option (Int × mm_T)
  | 0, _, _, _ => none
  | f + 1, v2, v3, M =>
    if ¬ v3 = 0 then (
      kx111 v2 M
    ) else (
      ck_ (v2 + 1) fun v2_42 =>
      lt_ (1 : Int) fun v3_46 =>
      ck_ (v1 - v2_42) fun x50 =>
      lt_ (mx_ 0 x50) fun v4_54 =>
      lp_M_local_56
        (fun (v3_108 : Int) (M : mm_T) =>
          lp_M_local_38 kx111 a0 v1 f v2_42 v3_108 M
        )
        a0 v1 v2_42 FU_ v3_46 v4_54 M
    )

def k_M_local (a0 : Nat) (v1 : Int) (M : mm_T) : Option (Int × mm_T) :=
  pI_ M a0 11 0 0 fun M =>
  gI_ M a0 11 14 fun x9 =>
  ck_ (x9 - 1) fun x13 =>
  cl_ (k_M_in v1 1 x13 M) fun c14 M =>
  jn_ (fun (sa0_25 : Nat) (s1_25 : Int) (M : mm_T) =>
    ob_ M sa0_25 11 <| cl_ (k_M_throwsIf sa0_25 s1_25 1 M) fun c26 M =>
    if c26 = 0 then (
      lt_ (0 : Int) fun v2_35 =>
      lt_ (0 : Int) fun v3_37 =>
      lp_M_local_38
        (fun (v2_111 : Int) (M : mm_T) =>
          some (v2_111, M)
        )
        a0 v1 FU_ v2_35 v3_37 M
    ) else (
      some (0, M)
    )
  ) fun j25 =>
  if ¬ c14 = 0 then (
    j25 a0 0 M
  ) else (
    j25 a0 1 M
  )
def k_M_imageOf (a0 : Nat) (v1 : Int) (v2 : Int) (v3 : Int) (M : mm_T) : Option (Int × mm_T) :=
  gR_ M a0 11 9 fun r1 =>
  ck_ (4 * v1) fun x10 =>
  ck_ (x10 + v2) fun x12 =>
  ck_ (6 * x12) fun x13 =>
  ck_ (70 + x13) fun x14 =>
  ck_ (x14 + v3) fun x16 =>
  aI_ M r1 0 x16 fun x17 =>
  some (x17, M)
def k_M_longOf (a0 : Nat) (v1 : Int) (v2 : Int) (M : mm_T) : Option (Int × mm_T) :=
  gR_ M a0 11 9 fun r1 =>
  ck_ (4 * v1) fun x8 =>
  ck_ (54 + x8) fun x9 =>
  ck_ (x9 + v2) fun x11 =>
  aI_ M r1 0 x11 fun x12 =>
  some (x12, M)
def lp_M_images_15 (kx56 : Int → mm_T → Option (Int × mm_T)) (a0 : Nat) (a1 : Nat) (v3 : Int) (v5 : Int) : Nat → Int → Int → mm_T → Option (Int × mm_T)
  | 0, _, _, _ => none
  | f + 1, v4, v6, M =>
    aI_ M a1 0 v5 fun x22 =>
    ob_ M a0 11 <| cl_ (k_M_longOf a0 v3 x22 M) fun c23 M =>
    if c23 ≤ v6 then (
      kx56 v4 M
    ) else (
      gR_ M a0 11 26 fun r30 =>
      aI_ M a1 0 v5 fun x40 =>
      ob_ M a0 11 <| cl_ (k_M_imageOf a0 v3 x40 v6 M) fun c43 M =>
      sI_ M r30 v4 c43 fun M =>
      ck_ (v4 + 1) fun v4_47 =>
      ck_ (v6 + 1) fun v6_50 =>
      lp_M_images_15 kx56 a0 a1 v3 v5 f v4_47 v6_50 M
    )

def lp_M_images_6 (kx62 : Int → mm_T → Option (Int × mm_T)) (a0 : Nat) (a1 : Nat) (v2 : Int) (v3 : Int) : Nat → Int → Int → mm_T → Option (Int × mm_T)
  | 0, _, _, _ => none
  | f + 1, v4, v5, M =>
    if v2 ≤ v5 then (
      kx62 v4 M
    ) else (
      lt_ (0 : Int) fun v6_13 =>
      lp_M_images_15
        (fun (v4_56 : Int) (M : mm_T) =>
          ck_ (v5 + 1) fun v5_56 =>
          lp_M_images_6 kx62 a0 a1 v2 v3 f v4_56 v5_56 M
        )
        a0 a1 v3 v5 FU_ v4 v6_13 M
    )

def k_M_images (a0 : Nat) (a1 : Nat) (v2 : Int) (v3 : Int) (M : mm_T) : Option (Int × mm_T) :=
  lt_ (0 : Int) fun v4_1 =>
  lt_ (0 : Int) fun v5_4 =>
  lp_M_images_6
    (fun (v4_62 : Int) (M : mm_T) =>
      some (v4_62, M)
    )
    a0 a1 v2 v3 FU_ v4_1 v5_4 M
def k_M_doesBreak (a0 : Nat) (v1 : Int) (M : mm_T) : Option (Int × mm_T) :=
  gR_ M a0 11 19 fun r2 =>
  gI_ M a0 11 24 fun x7 =>
  ob_ M a0 11 <| cl_ (k_M_images a0 r2 v1 x7 M) fun c10 M =>
  lt_ c10 fun v2_13 =>
  gR_ M a0 11 26 fun r16 =>
  ob_ M a0 11 <| cl_ (k_M_freeOf a0 r16 v2_13 M) fun c20 M =>
  if v2_13 ≤ c20 then (
    zz_ 0 (some (0, M))
  ) else (
    zz_ 1 (some (1, M))
  )
def lp_M_isAheadOf_2 (kx28 : Int → mm_T → Option (Int × mm_T)) (a0 : Nat) (v1 : Int) : Nat → Int → mm_T → Option (Int × mm_T)
  | 0, _, _ => none
  | f + 1, v2, M =>
    if v1 ≤ v2 then (
      kx28 v2 M
    ) else (
      gR_ M a0 11 19 fun r8 =>
      aI_ M r8 0 v2 fun x12 =>
      gR_ M a0 11 12 fun r14 =>
      aI_ M r14 0 v2 fun x18 =>
      if ¬ x12 = x18 then (
        kx28 v2 M
      ) else (
        ck_ (v2 + 1) fun v2_22 =>
        lp_M_isAheadOf_2 kx28 a0 v1 f v2_22 M
      )
    )

def k_M_isAheadOf (a0 : Nat) (v1 : Int) (M : mm_T) : Option (Int × mm_T) :=
  lt_ (0 : Int) fun v2_1 =>
  lp_M_isAheadOf_2
    (fun (v2_28 : Int) (M : mm_T) =>
      jn_ (fun (M : mm_T) =>
        zz_ 0 (some (0, M))
      ) fun j52 =>
      if v1 ≤ v2_28 then (
        j52 M
      ) else (
        gR_ M a0 11 19 fun r34 =>
        aI_ M r34 0 v2_28 fun x38 =>
        gR_ M a0 11 12 fun r40 =>
        aI_ M r40 0 v2_28 fun x44 =>
        if x44 ≤ x38 then (
          j52 M
        ) else (
          zz_ 1 (some (1, M))
        )
      )
    )
    a0 v1 FU_ v2_1 M
def lp_M_isStuck_2 (kx41 : mm_T → Option (Int × mm_T)) (a0 : Nat) (v1 : Int) : Nat → Int → mm_T → Option (Int × mm_T)
  | 0, _, _ => none
  | f + 1, v2, M =>
    gR_ M a0 11 9 fun r4 =>
    aI_ M r4 0 0 fun x8 =>
    if x8 ≤ v2 then (
      kx41 M
    ) else (
      gR_ M a0 11 19 fun r13 =>
      sI_ M r13 v1 v2 fun M =>
      gR_ M a0 11 19 fun r21 =>
      ck_ (v1 + 1) fun x26 =>
      ob_ M a0 11 <| cl_ (k_M_goesOn a0 r21 x26 M) fun c27 M =>
      if c27 = 0 then (
        ck_ (v2 + 1) fun v2_35 =>
        lp_M_isStuck_2 kx41 a0 v1 f v2_35 M
      ) else (
        zz_ 0 (some (0, M))
      )
    )

def k_M_isStuck (a0 : Nat) (v1 : Int) (M : mm_T) : Option (Int × mm_T) :=
  lt_ (0 : Int) fun v2_1 =>
  lp_M_isStuck_2
    (fun (M : mm_T) =>
      zz_ 1 (some (1, M))
    )
    a0 v1 FU_ v2_1 M
def k_M_meets (a0 : Nat) (v1 : Int) (v2 : Int) (M : mm_T) : Option (Int × mm_T) :=
  sw_ v2 0 5 (
    ob_ M a0 11 <| cl_ (k_M_doesBreak a0 v1 M) fun c147 M =>
    pZ_ M a0 11 25 c147 fun M =>
    gI_ M a0 11 25 fun x154 =>
    if ¬ x154 = 0 then (
      zz_ 0 (some (0, M))
    ) else (
      zz_ 1 (some (1, M))
    )
  ) fun i => match i with
    | 0 =>
      pZ_ M a0 11 25 1 fun M =>
      zz_ 0 (some (0, M))
    | 1 =>
      gI_ M a0 11 21 fun x45 =>
      ck_ (x45 + 1) fun x49 =>
      pI_ M a0 11 21 x49 fun M =>
      zz_ 1 (some (1, M))
    | 2 =>
      gI_ M a0 11 21 fun x57 =>
      ob_ M a0 11 <| cl_ (k_M_isStuck a0 v1 M) fun c62 M =>
      jn_ (fun (sa0_73 : Nat) (s1_73 : Int) (s2_73 : Int) (M : mm_T) =>
        ck_ (s1_73 + s2_73) fun x73 =>
        pI_ M sa0_73 11 21 x73 fun M =>
        zz_ 1 (some (1, M))
      ) fun j73 =>
      if c62 = 0 then (
        j73 a0 x57 0 M
      ) else (
        j73 a0 x57 1 M
      )
    | 3 =>
      ob_ M a0 11 <| cl_ (k_M_isAheadOf a0 v1 M) fun c81 M =>
      if ¬ c81 = 0 then (
        gI_ M a0 11 21 fun x91 =>
        ck_ (x91 + 1) fun x95 =>
        pI_ M a0 11 21 x95 fun M =>
        zz_ 1 (some (1, M))
      ) else (
        zz_ 0 (some (0, M))
      )
    | 4 =>
      gI_ M a0 11 21 fun x103 =>
      gI_ M a0 11 23 fun x107 =>
      jn_ (fun (sa0_118 : Nat) (s1_118 : Int) (M : mm_T) =>
        pZ_ M sa0_118 11 25 s1_118 fun M =>
        gI_ M a0 11 21 fun x123 =>
        ck_ (x123 + 1) fun x127 =>
        pI_ M a0 11 21 x127 fun M =>
        gI_ M a0 11 25 fun x132 =>
        if ¬ x132 = 0 then (
          zz_ 0 (some (0, M))
        ) else (
          zz_ 1 (some (1, M))
        )
      ) fun j118 =>
      if ¬ x103 = x107 then (
        j118 a0 0 M
      ) else (
        j118 a0 1 M
      )
    | _ => none
def lp_M_searches_15 (kx95 : mm_T → Option (Int × mm_T)) (rec : Nat → Int → Int → Int → mm_T → Option (Int × mm_T)) (a0 : Nat) (v1 : Int) (v2 : Int) (v3 : Int) : Nat → Int → mm_T → Option (Int × mm_T)
  | 0, _, _ => none
  | f + 1, v4, M =>
    gR_ M a0 11 9 fun r18 =>
    aI_ M r18 0 0 fun x22 =>
    if x22 ≤ v4 then (
      kx95 M
    ) else (
      gI_ M a0 11 20 fun x27 =>
      if ¬ x27 = 5000 then (
        gI_ M a0 11 20 fun x45 =>
        ck_ (x45 + 1) fun x49 =>
        pI_ M a0 11 20 x49 fun M =>
        gR_ M a0 11 19 fun r54 =>
        sI_ M r54 v1 v4 fun M =>
        gR_ M a0 11 19 fun r63 =>
        ck_ (v1 + 1) fun x68 =>
        ob_ M a0 11 <| cl_ (k_M_goesOn a0 r63 x68 M) fun c69 M =>
        jn_ (fun (M : mm_T) =>
          ck_ (v4 + 1) fun v4_89 =>
          lp_M_searches_15 kx95 rec a0 v1 v2 v3 f v4_89 M
        ) fun j89 =>
        if c69 = 0 then (
          j89 M
        ) else (
          ck_ (v1 + 1) fun x78 =>
          ob_ M a0 11 <| cl_ (rec a0 x78 v2 v3 M) fun c81 M =>
          if ¬ c81 = 0 then (
            j89 M
          ) else (
            zz_ 0 (some (0, M))
          )
        )
      ) else (
        pZ_ M a0 11 22 1 fun M =>
        zz_ 0 (some (0, M))
      )
    )

def k_M_searches : Nat → Nat → Int → Int → Int → mm_T → Option (Int × mm_T)
  | 0, _, _, _, _, _ => none
  | d + 1, a0, v1, v2, v3, M =>
    if ¬ v1 = v2 then (
      lt_ (0 : Int) fun v4_13 =>
      lp_M_searches_15
        (fun (M : mm_T) =>
          zz_ 1 (some (1, M))
        )
        (k_M_searches d) a0 v1 v2 v3 FU_ v4_13 M
    ) else (
      ob_ M a0 11 <| cl_ (k_M_meets a0 v2 v3 M) fun c8 M =>
      zz_ c8 (some (c8, M))
    )
def k_M_startsSearch (a0 : Nat) (M : mm_T) : Option (Unit × mm_T) :=
  pI_ M a0 11 20 0 fun M =>
  pI_ M a0 11 21 0 fun M =>
  pZ_ M a0 11 22 0 fun M =>
  pZ_ M a0 11 25 0 fun M =>
  some ((), M)
def lp_M_takes_2 (kx28 : mm_T → Option (Unit × mm_T)) (a0 : Nat) : Nat → Int → mm_T → Option (Unit × mm_T)
  | 0, _, _ => none
  | f + 1, v1, M =>
    gI_ M a0 11 14 fun x4 =>
    if x4 ≤ v1 then (
      kx28 M
    ) else (
      gR_ M a0 11 19 fun r11 =>
      gR_ M a0 11 12 fun r16 =>
      aI_ M r16 0 v1 fun x20 =>
      sI_ M r11 v1 x20 fun M =>
      ck_ (v1 + 1) fun v1_22 =>
      lp_M_takes_2 kx28 a0 f v1_22 M
    )

def k_M_takes (a0 : Nat) (M : mm_T) : Option (Unit × mm_T) :=
  lt_ (0 : Int) fun v1_1 =>
  lp_M_takes_2
    (fun (M : mm_T) =>
      some ((), M)
    )
    a0 FU_ v1_1 M
def lp_M_becomesFound_2 (kx25 : mm_T → Option (Unit × mm_T)) (a0 : Nat) (v1 : Int) : Nat → Int → mm_T → Option (Unit × mm_T)
  | 0, _, _ => none
  | f + 1, v2, M =>
    if v1 ≤ v2 then (
      kx25 M
    ) else (
      gR_ M a0 11 13 fun r8 =>
      gR_ M a0 11 19 fun r13 =>
      aI_ M r13 0 v2 fun x17 =>
      sI_ M r8 v2 x17 fun M =>
      ck_ (v2 + 1) fun v2_19 =>
      lp_M_becomesFound_2 kx25 a0 v1 f v2_19 M
    )

def k_M_becomesFound (a0 : Nat) (v1 : Int) (M : mm_T) : Option (Unit × mm_T) :=
  lt_ (0 : Int) fun v2_1 =>
  lp_M_becomesFound_2
    (fun (M : mm_T) =>
      ob_ M a0 11 <| cl_ (k_M_becomes a0 v1 M) fun _ M =>
      some ((), M)
    )
    a0 v1 FU_ v2_1 M
def k_M_first (a0 : Nat) (v1 : Int) (M : mm_T) : Option (Int × mm_T) :=
  pI_ M a0 11 0 0 fun M =>
  cl_ (k_M_in v1 1 40 M) fun c10 M =>
  jn_ (fun (sa0_21 : Nat) (s1_21 : Int) (M : mm_T) =>
    ob_ M sa0_21 11 <| cl_ (k_M_throwsIf sa0_21 s1_21 1 M) fun c22 M =>
    if c22 = 0 then (
      ob_ M a0 11 <| cl_ (k_M_startsSearch a0 M) fun _ M =>
      ob_ M a0 11 <| cl_ (k_M_searches 50 a0 0 v1 0 M) fun c38 M =>
      lt_ c38 fun v2_41 =>
      gI_ M a0 11 22 fun x43 =>
      if x43 = 0 then (
        gI_ M a0 11 25 fun x53 =>
        if ¬ x53 = 0 then (
          ob_ M a0 11 <| cl_ (k_M_becomesFound a0 v1 M) fun _ M =>
          gI_ M a0 11 20 fun x67 =>
          some (x67, M)
        ) else (
          some ((-1), M)
        )
      ) else (
        some ((-2), M)
      )
    ) else (
      some (0, M)
    )
  ) fun j21 =>
  if ¬ c10 = 0 then (
    j21 a0 0 M
  ) else (
    j21 a0 1 M
  )
def lp_M_next_74 (kx191 : mm_T → Option (Int × mm_T)) (a0 : Nat) (v1 : Int) (v2 : Int) : Nat → Int → mm_T → Option (Int × mm_T)
  | 0, _, _ => none
  | f + 1, v3, M =>
    gR_ M a0 11 9 fun r76 =>
    aI_ M r76 0 0 fun x80 =>
    if x80 ≤ v3 then (
      kx191 M
    ) else (
      if v1 < v2 then (
        kx191 M
      ) else (
        gI_ M a0 11 20 fun x90 =>
        if ¬ x90 = 5000 then (
          gI_ M a0 11 20 fun x104 =>
          ck_ (x104 + 1) fun x108 =>
          pI_ M a0 11 20 x108 fun M =>
          gR_ M a0 11 19 fun r113 =>
          sI_ M r113 v2 v3 fun M =>
          gR_ M a0 11 19 fun r121 =>
          ck_ (v2 + 1) fun x126 =>
          ob_ M a0 11 <| cl_ (k_M_goesOn a0 r121 x126 M) fun c127 M =>
          jn_ (fun (s0_153 : Int) (M : mm_T) =>
            lt_ s0_153 fun v4_153 =>
            gI_ M a0 11 22 fun x156 =>
            if x156 = 0 then (
              gI_ M a0 11 25 fun x166 =>
              if ¬ x166 = 0 then (
                gI_ M a0 11 14 fun x177 =>
                ob_ M a0 11 <| cl_ (k_M_becomesFound a0 x177 M) fun _ M =>
                some (v2, M)
              ) else (
                ck_ (v3 + 1) fun v3_185 =>
                lp_M_next_74 kx191 a0 v1 v2 f v3_185 M
              )
            ) else (
              some ((-2), M)
            )
          ) fun j153 =>
          jn_ (fun (M : mm_T) =>
            j153 1 M
          ) fun j148 =>
          if c127 = 0 then (
            j148 M
          ) else (
            ck_ (v2 + 1) fun x136 =>
            gI_ M a0 11 14 fun x138 =>
            ob_ M a0 11 <| cl_ (k_M_searches 50 a0 x136 x138 0 M) fun c142 M =>
            if c142 = 0 then (
              j153 0 M
            ) else (
              j148 M
            )
          )
        ) else (
          some ((-2), M)
        )
      )
    )

def lp_M_next_57 (kx197 : mm_T → Option (Int × mm_T)) (a0 : Nat) (v1 : Int) : Nat → Int → mm_T → Option (Int × mm_T)
  | 0, _, _ => none
  | f + 1, v2, M =>
    if v2 < 0 then (
      kx197 M
    ) else (
      ob_ M a0 11 <| cl_ (k_M_takes a0 M) fun _ M =>
      gR_ M a0 11 12 fun r66 =>
      aI_ M r66 0 v2 fun x70 =>
      ck_ (x70 + 1) fun x72 =>
      lt_ x72 fun v3_73 =>
      lp_M_next_74
        (fun (M : mm_T) =>
          ck_ (v2 + (-1)) fun v2_191 =>
          lp_M_next_57 kx197 a0 v1 f v2_191 M
        )
        a0 v1 v2 FU_ v3_73 M
    )

def k_M_next (a0 : Nat) (M : mm_T) : Option (Int × mm_T) :=
  pI_ M a0 11 0 0 fun M =>
  gI_ M a0 11 14 fun x7 =>
  jn_ (fun (sa0_20 : Nat) (s1_20 : Int) (M : mm_T) =>
    ob_ M sa0_20 11 <| cl_ (k_M_throwsIf sa0_20 s1_20 1 M) fun c21 M =>
    if c21 = 0 then (
      ob_ M a0 11 <| cl_ (k_M_startsSearch a0 M) fun _ M =>
      ob_ M a0 11 <| cl_ (k_M_takes a0 M) fun _ M =>
      gR_ M a0 11 12 fun r39 =>
      gI_ M a0 11 14 fun x43 =>
      ob_ M a0 11 <| cl_ (k_M_freeOf a0 r39 x43 M) fun c46 M =>
      lt_ c46 fun v1_49 =>
      gI_ M a0 11 14 fun x51 =>
      ck_ (x51 - 1) fun x55 =>
      lt_ x55 fun v2_56 =>
      lp_M_next_57
        (fun (M : mm_T) =>
          some ((-1), M)
        )
        a0 v1_49 FU_ v2_56 M
    ) else (
      some (0, M)
    )
  ) fun j20 =>
  if x7 ≤ 40 then (
    j20 a0 0 M
  ) else (
    j20 a0 1 M
  )
def k_M_countBy (a0 : Nat) (v1 : Int) (v2 : Int) (M : mm_T) : Option (Int × mm_T) :=
  ob_ M a0 11 <| cl_ (k_M_startsSearch a0 M) fun _ M =>
  ob_ M a0 11 <| cl_ (k_M_searches 50 a0 0 v1 v2 M) fun c8 M =>
  lt_ c8 fun v3_11 =>
  gI_ M a0 11 22 fun x13 =>
  if x13 = 0 then (
    gI_ M a0 11 21 fun x25 =>
    some (x25, M)
  ) else (
    some ((-2), M)
  )
def k_M_many (a0 : Nat) (v1 : Int) (M : mm_T) : Option (Int × mm_T) :=
  pI_ M a0 11 0 0 fun M =>
  cl_ (k_M_in v1 0 40 M) fun c10 M =>
  jn_ (fun (sa0_21 : Nat) (s1_21 : Int) (M : mm_T) =>
    ob_ M sa0_21 11 <| cl_ (k_M_throwsIf sa0_21 s1_21 1 M) fun c22 M =>
    if c22 = 0 then (
      ob_ M a0 11 <| cl_ (k_M_countBy a0 v1 1 M) fun c33 M =>
      some (c33, M)
    ) else (
      some (0, M)
    )
  ) fun j21 =>
  if ¬ c10 = 0 then (
    j21 a0 0 M
  ) else (
    j21 a0 1 M
  )
def k_M_growth (a0 : Nat) (v1 : Int) (M : mm_T) : Option (Int × mm_T) :=
  pI_ M a0 11 0 0 fun M =>
  cl_ (k_M_in v1 0 39 M) fun c10 M =>
  jn_ (fun (sa0_21 : Nat) (s1_21 : Int) (M : mm_T) =>
    ob_ M sa0_21 11 <| cl_ (k_M_throwsIf sa0_21 s1_21 1 M) fun c22 M =>
    if c22 = 0 then (
      ob_ M a0 11 <| cl_ (k_M_countBy a0 v1 1 M) fun c33 M =>
      lt_ c33 fun v2_36 =>
      jn_ (fun (M : mm_T) =>
        if ¬ v2_36 = (-2) then (
          some ((-1), M)
        ) else (
          some ((-2), M)
        )
      ) fun j47 =>
      if v2_36 = (-2) then (
        j47 M
      ) else (
        if ¬ v2_36 = 0 then (
          ck_ (v1 + 1) fun x63 =>
          ob_ M a0 11 <| cl_ (k_M_countBy a0 x63 1 M) fun c65 M =>
          lt_ c65 fun v3_68 =>
          if ¬ v3_68 = (-2) then (
            ck_ (1000 * v3_68) fun x84 =>
            dv_ x84 v2_36 fun x86 =>
            some (x86, M)
          ) else (
            some ((-2), M)
          )
        ) else (
          j47 M
        )
      )
    ) else (
      some (0, M)
    )
  ) fun j21 =>
  if ¬ c10 = 0 then (
    j21 a0 0 M
  ) else (
    j21 a0 1 M
  )
def lp_M_longest_7 (kx52 : mm_T → Option (Int × mm_T)) (a0 : Nat) : Nat → Int → mm_T → Option (Int × mm_T)
  | 0, _, _ => none
  | f + 1, v1, M =>
    if 40 < v1 then (
      kx52 M
    ) else (
      ob_ M a0 11 <| cl_ (k_M_startsSearch a0 M) fun _ M =>
      ob_ M a0 11 <| cl_ (k_M_searches 50 a0 0 v1 0 M) fun c21 M =>
      lt_ c21 fun v2_24 =>
      gI_ M a0 11 22 fun x26 =>
      if x26 = 0 then (
        gI_ M a0 11 25 fun x36 =>
        if ¬ x36 = 0 then (
          ck_ (v1 + 1) fun v1_46 =>
          lp_M_longest_7 kx52 a0 f v1_46 M
        ) else (
          ck_ (v1 - 1) fun x44 =>
          some (x44, M)
        )
      ) else (
        some ((-2), M)
      )
    )

def k_M_longest (a0 : Nat) (M : mm_T) : Option (Int × mm_T) :=
  pI_ M a0 11 0 0 fun M =>
  lt_ (1 : Int) fun v1_6 =>
  lp_M_longest_7
    (fun (M : mm_T) =>
      some (40, M)
    )
    a0 FU_ v1_6 M
def lp_M_further_29 (kx85 : mm_T → Option (Int × mm_T)) (a0 : Nat) (v1 : Int) : Nat → Int → mm_T → Option (Int × mm_T)
  | 0, _, _ => none
  | f + 1, v2, M =>
    if v1 < v2 then (
      kx85 M
    ) else (
      ob_ M a0 11 <| cl_ (k_M_startsSearch a0 M) fun _ M =>
      ob_ M a0 11 <| cl_ (k_M_takes a0 M) fun _ M =>
      gI_ M a0 11 14 fun x44 =>
      gI_ M a0 11 14 fun x48 =>
      ck_ (x48 + v2) fun x52 =>
      ob_ M a0 11 <| cl_ (k_M_searches 50 a0 x44 x52 0 M) fun c54 M =>
      lt_ c54 fun v3_57 =>
      gI_ M a0 11 22 fun x59 =>
      if x59 = 0 then (
        gI_ M a0 11 25 fun x69 =>
        if ¬ x69 = 0 then (
          ck_ (v2 + 1) fun v2_79 =>
          lp_M_further_29 kx85 a0 v1 f v2_79 M
        ) else (
          ck_ (v2 - 1) fun x77 =>
          some (x77, M)
        )
      ) else (
        some ((-2), M)
      )
    )

def k_M_further (a0 : Nat) (M : mm_T) : Option (Int × mm_T) :=
  pI_ M a0 11 0 0 fun M =>
  ob_ M a0 11 <| cl_ (k_M_isFree a0 M) fun c6 M =>
  if ¬ c6 = 0 then (
    gI_ M a0 11 14 fun x19 =>
    ck_ (64 - x19) fun x22 =>
    lt_ (mn_ 20 x22) fun v1_26 =>
    lt_ (1 : Int) fun v2_28 =>
    lp_M_further_29
      (fun (M : mm_T) =>
        some (v1_26, M)
      )
      a0 v1_26 FU_ v2_28 M
  ) else (
    some (0, M)
  )
def k_M_stuck (a0 : Nat) (v1 : Int) (M : mm_T) : Option (Int × mm_T) :=
  pI_ M a0 11 0 0 fun M =>
  cl_ (k_M_in v1 0 40 M) fun c10 M =>
  jn_ (fun (sa0_21 : Nat) (s1_21 : Int) (M : mm_T) =>
    ob_ M sa0_21 11 <| cl_ (k_M_throwsIf sa0_21 s1_21 1 M) fun c22 M =>
    if c22 = 0 then (
      ob_ M a0 11 <| cl_ (k_M_countBy a0 v1 2 M) fun c33 M =>
      some (c33, M)
    ) else (
      some (0, M)
    )
  ) fun j21 =>
  if ¬ c10 = 0 then (
    j21 a0 0 M
  ) else (
    j21 a0 1 M
  )
def k_M_rank (a0 : Nat) (M : mm_T) : Option (Int × mm_T) :=
  pI_ M a0 11 0 0 fun M =>
  gI_ M a0 11 14 fun x7 =>
  jn_ (fun (sa0_20 : Nat) (s1_20 : Int) (M : mm_T) =>
    ob_ M sa0_20 11 <| cl_ (k_M_throwsIf sa0_20 s1_20 1 M) fun c21 M =>
    if c21 = 0 then (
      gI_ M a0 11 14 fun x31 =>
      ob_ M a0 11 <| cl_ (k_M_countBy a0 x31 3 M) fun c35 M =>
      some (c35, M)
    ) else (
      some (0, M)
    )
  ) fun j20 =>
  if x7 ≤ 40 then (
    j20 a0 0 M
  ) else (
    j20 a0 1 M
  )
def k_M_nth (a0 : Nat) (v1 : Int) (v2 : Int) (M : mm_T) : Option (Int × mm_T) :=
  pI_ M a0 11 0 0 fun M =>
  cl_ (k_M_in v1 1 40 M) fun c10 M =>
  jn_ (fun (sa0_25 : Nat) (s1_25 : Int) (M : mm_T) =>
    ob_ M sa0_25 11 <| cl_ (k_M_throwsIf sa0_25 s1_25 1 M) fun c26 M =>
    if c26 = 0 then (
      ob_ M a0 11 <| cl_ (k_M_startsSearch a0 M) fun _ M =>
      pI_ M a0 11 23 v2 fun M =>
      ob_ M a0 11 <| cl_ (k_M_searches 50 a0 0 v1 4 M) fun c47 M =>
      lt_ c47 fun v3_50 =>
      gI_ M a0 11 22 fun x52 =>
      if x52 = 0 then (
        gI_ M a0 11 25 fun x62 =>
        if ¬ x62 = 0 then (
          ob_ M a0 11 <| cl_ (k_M_becomesFound a0 v1 M) fun _ M =>
          gI_ M a0 11 20 fun x76 =>
          some (x76, M)
        ) else (
          some ((-1), M)
        )
      ) else (
        some ((-2), M)
      )
    ) else (
      some (0, M)
    )
  ) fun j25 =>
  jn_ (fun (sa0_20 : Nat) (M : mm_T) =>
    j25 sa0_20 1 M
  ) fun j20 =>
  if c10 = 0 then (
    j20 a0 M
  ) else (
    if 0 ≤ v2 then (
      j25 a0 0 M
    ) else (
      j20 a0 M
    )
  )
def k_M_noMap (a0 : Nat) (v1 : Int) (M : mm_T) : Option (Int × mm_T) :=
  gR_ M a0 11 9 fun r4 =>
  aI_ M r4 0 4 fun x8 =>
  ck_ (x8 - 1) fun x10 =>
  cl_ (k_M_in v1 0 x10 M) fun c11 M =>
  jn_ (fun (sa0_22 : Nat) (s1_22 : Int) (M : mm_T) =>
    ob_ M sa0_22 11 <| cl_ (k_M_throwsIf sa0_22 s1_22 1 M) fun c23 M =>
    zz_ c23 (some (c23, M))
  ) fun j22 =>
  if ¬ c11 = 0 then (
    j22 a0 0 M
  ) else (
    j22 a0 1 M
  )
def lp_M_image_52 (kx75 : mm_T → Option (Int × mm_T)) (a0 : Nat) (v2 : Int) : Nat → Int → mm_T → Option (Int × mm_T)
  | 0, _, _ => none
  | f + 1, v3, M =>
    if v2 ≤ v3 then (
      kx75 M
    ) else (
      gR_ M a0 11 13 fun r58 =>
      gR_ M a0 11 26 fun r63 =>
      aI_ M r63 0 v3 fun x67 =>
      sI_ M r58 v3 x67 fun M =>
      ck_ (v3 + 1) fun v3_69 =>
      lp_M_image_52 kx75 a0 v2 f v3_69 M
    )

def k_M_image (a0 : Nat) (v1 : Int) (M : mm_T) : Option (Int × mm_T) :=
  pI_ M a0 11 0 0 fun M =>
  ob_ M a0 11 <| cl_ (k_M_noMap a0 v1 M) fun c7 M =>
  if c7 = 0 then (
    gR_ M a0 11 12 fun r17 =>
    gI_ M a0 11 14 fun x21 =>
    ob_ M a0 11 <| cl_ (k_M_images a0 r17 x21 v1 M) fun c25 M =>
    lt_ c25 fun v2_28 =>
    jn_ (fun (sa0_41 : Nat) (s1_41 : Int) (M : mm_T) =>
      ob_ M sa0_41 11 <| cl_ (k_M_throwsIf sa0_41 s1_41 2 M) fun c42 M =>
      if c42 = 0 then (
        lt_ (0 : Int) fun v3_51 =>
        lp_M_image_52
          (fun (M : mm_T) =>
            ob_ M a0 11 <| cl_ (k_M_becomes a0 v2_28 M) fun _ M =>
            gI_ M a0 11 14 fun x81 =>
            some (x81, M)
          )
          a0 v2_28 FU_ v3_51 M
      ) else (
        some (0, M)
      )
    ) fun j41 =>
    if v2_28 ≤ 64 then (
      j41 a0 0 M
    ) else (
      j41 a0 1 M
    )
  ) else (
    some (0, M)
  )
def k_M_imaged (a0 : Nat) (v1 : Int) (v2 : Int) (v3 : Int) (M : mm_T) : Option (Int × mm_T) :=
  pI_ M a0 11 0 0 fun M =>
  ob_ M a0 11 <| cl_ (k_M_noMap a0 v1 M) fun c7 M =>
  if ¬ c7 = 0 then (
    some (0, M)
  ) else (
    ob_ M a0 11 <| cl_ (k_M_noLetter a0 v2 2 M) fun c16 M =>
    if c16 = 0 then (
      if ¬ v3 = (-1) then (
        ob_ M a0 11 <| cl_ (k_M_longOf a0 v1 v2 M) fun c43 M =>
        ck_ (c43 - 1) fun x47 =>
        cl_ (k_M_in v3 0 x47 M) fun c48 M =>
        if c48 = 0 then (
          some ((-1), M)
        ) else (
          ob_ M a0 11 <| cl_ (k_M_imageOf a0 v1 v2 v3 M) fun c58 M =>
          some (c58, M)
        )
      ) else (
        ob_ M a0 11 <| cl_ (k_M_longOf a0 v1 v2 M) fun c32 M =>
        some (c32, M)
      )
    ) else (
      some (0, M)
    )
  )
def k_M_at (v0 : Int) (v1 : Int) (v2 : Int) (M : mm_T) : Option (Int × mm_T) :=
  ck_ (4 * v0) fun x3 =>
  ck_ (x3 + v1) fun x5 =>
  ck_ (4 * x5) fun x6 =>
  ck_ (x6 + v2) fun x8 =>
  some (x8, M)
def lp_M_laysCounts_10 (kx45 : mm_T → Option (Unit × mm_T)) (a0 : Nat) (v3 : Int) : Nat → Int → mm_T → Option (Unit × mm_T)
  | 0, _, _ => none
  | f + 1, v4, M =>
    if 4 ≤ v4 then (
      kx45 M
    ) else (
      gR_ M a0 11 27 fun r17 =>
      cl_ (k_M_at 0 v3 v4 M) fun c24 M =>
      jn_ (fun (sa0_38 : Nat) (s1_38 : Int) (sw2_38 : Int64) (M : mm_T) =>
        sJ_ M sa0_38 s1_38 sw2_38 fun M =>
        ck_ (v4 + 1) fun v4_39 =>
        lp_M_laysCounts_10 kx45 a0 v3 f v4_39 M
      ) fun j38 =>
      if ¬ v3 = v4 then (
        j38 r17 c24 0 M
      ) else (
        j38 r17 c24 1 M
      )
    )

def lp_M_laysCounts_2 (kx51 : mm_T → Option (Unit × mm_T)) (a0 : Nat) : Nat → Int → mm_T → Option (Unit × mm_T)
  | 0, _, _ => none
  | f + 1, v3, M =>
    if 4 ≤ v3 then (
      kx51 M
    ) else (
      lt_ (0 : Int) fun v4_8 =>
      lp_M_laysCounts_10
        (fun (M : mm_T) =>
          ck_ (v3 + 1) fun v3_45 =>
          lp_M_laysCounts_2 kx51 a0 f v3_45 M
        )
        a0 v3 FU_ v4_8 M
    )

def lp_M_laysCounts_98 (kx154 : mm_T → Option (Unit × mm_T)) (a0 : Nat) (v1 : Int) (v3 : Int) (v4 : Int) (v5 : Int) : Nat → Int → mm_T → Option (Unit × mm_T)
  | 0, _, _ => none
  | f + 1, v6, M =>
    ob_ M a0 11 <| cl_ (k_M_longOf a0 v1 v4 M) fun c104 M =>
    if c104 ≤ v6 then (
      kx154 M
    ) else (
      gR_ M a0 11 27 fun r111 =>
      cl_ (k_M_at v3 v4 v5 M) fun c119 M =>
      aJ_ M r111 c119 fun x123 =>
      gR_ M a0 11 27 fun r125 =>
      ck_ (v3 - 1) fun x130 =>
      ob_ M a0 11 <| cl_ (k_M_imageOf a0 v1 v4 v6 M) fun c137 M =>
      cl_ (k_M_at x130 c137 v5 M) fun c142 M =>
      aJ_ M r125 c142 fun x145 =>
      sJ_ M r111 c119 (x123 + x145) fun M =>
      ck_ (v6 + 1) fun v6_148 =>
      lp_M_laysCounts_98 kx154 a0 v1 v3 v4 v5 f v6_148 M
    )

def lp_M_laysCounts_75 (kx160 : mm_T → Option (Unit × mm_T)) (a0 : Nat) (v1 : Int) (v3 : Int) (v4 : Int) : Nat → Int → mm_T → Option (Unit × mm_T)
  | 0, _, _ => none
  | f + 1, v5, M =>
    if 4 ≤ v5 then (
      kx160 M
    ) else (
      gR_ M a0 11 27 fun r82 =>
      cl_ (k_M_at v3 v4 v5 M) fun c90 M =>
      sJ_ M r82 c90 0 fun M =>
      lt_ (0 : Int) fun v6_96 =>
      lp_M_laysCounts_98
        (fun (M : mm_T) =>
          ck_ (v5 + 1) fun v5_154 =>
          lp_M_laysCounts_75 kx160 a0 v1 v3 v4 f v5_154 M
        )
        a0 v1 v3 v4 v5 FU_ v6_96 M
    )

def lp_M_laysCounts_61 (kx166 : mm_T → Option (Unit × mm_T)) (a0 : Nat) (v1 : Int) (v3 : Int) : Nat → Int → mm_T → Option (Unit × mm_T)
  | 0, _, _ => none
  | f + 1, v4, M =>
    gR_ M a0 11 9 fun r64 =>
    aI_ M r64 0 0 fun x68 =>
    if x68 ≤ v4 then (
      kx166 M
    ) else (
      lt_ (0 : Int) fun v5_73 =>
      lp_M_laysCounts_75
        (fun (M : mm_T) =>
          ck_ (v4 + 1) fun v4_160 =>
          lp_M_laysCounts_61 kx166 a0 v1 v3 f v4_160 M
        )
        a0 v1 v3 v4 FU_ v5_73 M
    )

def lp_M_laysCounts_53 (kx172 : mm_T → Option (Unit × mm_T)) (a0 : Nat) (v1 : Int) (v2 : Int) : Nat → Int → mm_T → Option (Unit × mm_T)
  | 0, _, _ => none
  | f + 1, v3, M =>
    if v2 < v3 then (
      kx172 M
    ) else (
      lt_ (0 : Int) fun v4_59 =>
      lp_M_laysCounts_61
        (fun (M : mm_T) =>
          ck_ (v3 + 1) fun v3_166 =>
          lp_M_laysCounts_53 kx172 a0 v1 v2 f v3_166 M
        )
        a0 v1 v3 FU_ v4_59 M
    )

def k_M_laysCounts (a0 : Nat) (v1 : Int) (v2 : Int) (M : mm_T) : Option (Unit × mm_T) :=
  lt_ (0 : Int) fun v3_1 =>
  lp_M_laysCounts_2
    (fun (M : mm_T) =>
      lt_ (1 : Int) fun v3_52 =>
      lp_M_laysCounts_53
        (fun (M : mm_T) =>
          some ((), M)
        )
        a0 v1 v2 FU_ v3_52 M
    )
    a0 FU_ v3_1 M
def lp_M_lengthOf_5 (kx32 : Int64 → mm_T → Option (Int64 × mm_T)) (a0 : Nat) (v1 : Int) (v2 : Int) : Nat → Int64 → Int → mm_T → Option (Int64 × mm_T)
  | 0, _, _, _ => none
  | f + 1, w3, v5, M =>
    if 4 ≤ v5 then (
      kx32 w3 M
    ) else (
      gR_ M a0 11 27 fun r13 =>
      cl_ (k_M_at v1 v2 v5 M) fun c20 M =>
      aJ_ M r13 c20 fun x23 =>
      lt_ (w3 + x23) fun w3_25 =>
      ck_ (v5 + 1) fun v5_26 =>
      lp_M_lengthOf_5 kx32 a0 v1 v2 f w3_25 v5_26 M
    )

def k_M_lengthOf (a0 : Nat) (v1 : Int) (v2 : Int) (M : mm_T) : Option (Int64 × mm_T) :=
  lt_ (0 : Int64) fun w3_1 =>
  lt_ (0 : Int) fun v5_3 =>
  lp_M_lengthOf_5
    (fun (w3_32 : Int64) (M : mm_T) =>
      some (w3_32, M)
    )
    a0 v1 v2 FU_ w3_1 v5_3 M
def k_M_noPower (a0 : Nat) (v1 : Int) (v2 : Int) (v3 : Int) (M : mm_T) : Option (Int × mm_T) :=
  ob_ M a0 11 <| cl_ (k_M_noMap a0 v1 M) fun c2 M =>
  jn_ (fun (M : mm_T) =>
    zz_ 1 (some (1, M))
  ) fun j40 =>
  if ¬ c2 = 0 then (
    j40 M
  ) else (
    ob_ M a0 11 <| cl_ (k_M_noLetter a0 v2 2 M) fun c11 M =>
    if ¬ c11 = 0 then (
      j40 M
    ) else (
      cl_ (k_M_in v3 0 12 M) fun c22 M =>
      jn_ (fun (sa0_33 : Nat) (s1_33 : Int) (M : mm_T) =>
        ob_ M sa0_33 11 <| cl_ (k_M_throwsIf sa0_33 s1_33 2 M) fun c34 M =>
        if c34 = 0 then (
          zz_ 0 (some (0, M))
        ) else (
          j40 M
        )
      ) fun j33 =>
      if ¬ c22 = 0 then (
        j33 a0 0 M
      ) else (
        j33 a0 1 M
      )
    )
  )
def k_M_length (a0 : Nat) (v1 : Int) (v2 : Int) (v3 : Int) (M : mm_T) : Option (Int64 × mm_T) :=
  pI_ M a0 11 0 0 fun M =>
  ob_ M a0 11 <| cl_ (k_M_noPower a0 v1 v2 v3 M) fun c9 M =>
  if c9 = 0 then (
    ob_ M a0 11 <| cl_ (k_M_laysCounts a0 v1 v3 M) fun _ M =>
    ob_ M a0 11 <| cl_ (k_M_lengthOf a0 v3 v2 M) fun c26 M =>
    some (c26, M)
  ) else (
    some (0, M)
  )
def lp_M_placed_18 (kx69 : Int64 → Int → mm_T → Option (Int × mm_T)) (a0 : Nat) (v1 : Int) (v6 : Int) (v9 : Int) : Nat → Int64 → Int → mm_T → Option (Int × mm_T)
  | 0, _, _, _ => none
  | f + 1, w7, v10, M =>
    ck_ (v9 - 1) fun x24 =>
    ob_ M a0 11 <| cl_ (k_M_imageOf a0 v1 v6 v10 M) fun c31 M =>
    ob_ M a0 11 <| cl_ (k_M_lengthOf a0 x24 c31 M) fun c34 M =>
    if lcm_ w7 c34 < 0 then (
      kx69 w7 v10 M
    ) else (
      ck_ (v9 - 1) fun x47 =>
      ob_ M a0 11 <| cl_ (k_M_imageOf a0 v1 v6 v10 M) fun c54 M =>
      ob_ M a0 11 <| cl_ (k_M_lengthOf a0 x47 c54 M) fun c57 M =>
      lt_ (w7 - c57) fun w7_61 =>
      ck_ (v10 + 1) fun v10_63 =>
      lp_M_placed_18 kx69 a0 v1 v6 v9 f w7_61 v10_63 M
    )

def lp_M_placed_10 (kx86 : Int → mm_T → Option (Int × mm_T)) (a0 : Nat) (v1 : Int) : Nat → Int → Int64 → Int → mm_T → Option (Int × mm_T)
  | 0, _, _, _, _ => none
  | f + 1, v6, w7, v9, M =>
    if v9 ≤ 0 then (
      kx86 v6 M
    ) else (
      lt_ (0 : Int) fun v10_16 =>
      lp_M_placed_18
        (fun (w7_69 : Int64) (v10_69 : Int) (M : mm_T) =>
          ob_ M a0 11 <| cl_ (k_M_imageOf a0 v1 v6 v10_69 M) fun c75 M =>
          lt_ c75 fun v6_78 =>
          ck_ (v9 + (-1)) fun v9_80 =>
          lp_M_placed_10 kx86 a0 v1 f v6_78 w7_69 v9_80 M
        )
        a0 v1 v6 v9 FU_ w7 v10_16 M
    )

def k_M_placed (a0 : Nat) (v1 : Int) (v2 : Int) (v3 : Int) (w4 : Int64) (M : mm_T) : Option (Int × mm_T) :=
  lt_ v2 fun v6_1 =>
  lt_ w4 fun w7_5 =>
  lt_ v3 fun v9_8 =>
  lp_M_placed_10
    (fun (v6_86 : Int) (M : mm_T) =>
      some (v6_86, M)
    )
    a0 v1 FU_ v6_1 w7_5 v9_8 M
def k_M_power (a0 : Nat) (v1 : Int) (v2 : Int) (v3 : Int) (w4 : Int64) (M : mm_T) : Option (Int × mm_T) :=
  pI_ M a0 11 0 0 fun M =>
  ob_ M a0 11 <| cl_ (k_M_noPower a0 v1 v2 v3 M) fun c9 M =>
  if c9 = 0 then (
    ob_ M a0 11 <| cl_ (k_M_laysCounts a0 v1 v3 M) fun _ M =>
    if lcm_ w4 0 < 0 then (
      some ((-1), M)
    ) else (
      ob_ M a0 11 <| cl_ (k_M_lengthOf a0 v3 v2 M) fun c35 M =>
      if lcm_ w4 c35 < 0 then (
        ob_ M a0 11 <| cl_ (k_M_placed a0 v1 v2 v3 w4 M) fun c50 M =>
        some (c50, M)
      ) else (
        some ((-1), M)
      )
    )
  ) else (
    some (0, M)
  )
def k_M_often (a0 : Nat) (v1 : Int) (v2 : Int) (v3 : Int) (v4 : Int) (M : mm_T) : Option (Int64 × mm_T) :=
  pI_ M a0 11 0 0 fun M =>
  ob_ M a0 11 <| cl_ (k_M_noPower a0 v1 v2 v3 M) fun c9 M =>
  jn_ (fun (M : mm_T) =>
    some (0, M)
  ) fun j25 =>
  if ¬ c9 = 0 then (
    j25 M
  ) else (
    ob_ M a0 11 <| cl_ (k_M_noLetter a0 v4 2 M) fun c19 M =>
    if c19 = 0 then (
      ob_ M a0 11 <| cl_ (k_M_laysCounts a0 v1 v3 M) fun _ M =>
      gR_ M a0 11 27 fun r34 =>
      cl_ (k_M_at v3 v2 v4 M) fun c41 M =>
      aJ_ M r34 c41 fun x44 =>
      some (x44, M)
    ) else (
      j25 M
    )
  )
def lp_M_laysBreak_16 (kx55 : mm_T → Option (Unit × mm_T)) (a0 : Nat) (v2 : Int) : Nat → Int → mm_T → Option (Unit × mm_T)
  | 0, _, _ => none
  | f + 1, v3, M =>
    if v2 < v3 then (
      kx55 M
    ) else (
      gI_ M a0 11 22 fun x22 =>
      if ¬ x22 = 0 then (
        kx55 M
      ) else (
        gI_ M a0 11 25 fun x29 =>
        if ¬ x29 = 0 then (
          kx55 M
        ) else (
          ob_ M a0 11 <| cl_ (k_M_searches 50 a0 0 v3 5 M) fun c39 M =>
          lt_ c39 fun v4_42 =>
          pI_ M a0 11 23 v3 fun M =>
          ck_ (v3 + 1) fun v3_49 =>
          lp_M_laysBreak_16 kx55 a0 v2 f v3_49 M
        )
      )
    )

def k_M_laysBreak (a0 : Nat) (v1 : Int) (v2 : Int) (M : mm_T) : Option (Unit × mm_T) :=
  ob_ M a0 11 <| cl_ (k_M_startsSearch a0 M) fun _ M =>
  pI_ M a0 11 24 v1 fun M =>
  pI_ M a0 11 23 0 fun M =>
  lt_ (1 : Int) fun v3_15 =>
  lp_M_laysBreak_16
    (fun (M : mm_T) =>
      some ((), M)
    )
    a0 v2 FU_ v3_15 M
def k_M_keeps (a0 : Nat) (v1 : Int) (v2 : Int) (M : mm_T) : Option (Int × mm_T) :=
  pI_ M a0 11 0 0 fun M =>
  ob_ M a0 11 <| cl_ (k_M_noMap a0 v1 M) fun c7 M =>
  if ¬ c7 = 0 then (
    some (0, M)
  ) else (
    cl_ (k_M_in v2 1 6 M) fun c18 M =>
    jn_ (fun (sa0_29 : Nat) (s1_29 : Int) (M : mm_T) =>
      ob_ M sa0_29 11 <| cl_ (k_M_throwsIf sa0_29 s1_29 2 M) fun c30 M =>
      if c30 = 0 then (
        ob_ M a0 11 <| cl_ (k_M_laysBreak a0 v1 v2 M) fun _ M =>
        gI_ M a0 11 22 fun x45 =>
        if x45 = 0 then (
          gI_ M a0 11 25 fun x57 =>
          if x57 = 0 then (
            some (1, M)
          ) else (
            some (0, M)
          )
        ) else (
          some ((-2), M)
        )
      ) else (
        some (0, M)
      )
    ) fun j29 =>
    if ¬ c18 = 0 then (
      j29 a0 0 M
    ) else (
      j29 a0 1 M
    )
  )
def lp_M_breaks_77 (kx107 : Int → mm_T → Option (Int × mm_T)) (a0 : Nat) : Nat → Int → Int → mm_T → Option (Int × mm_T)
  | 0, _, _, _ => none
  | f + 1, v3, v4, M =>
    gI_ M a0 11 23 fun x80 =>
    if x80 ≤ v4 then (
      kx107 v3 M
    ) else (
      ck_ (10 * v3) fun x89 =>
      gR_ M a0 11 19 fun r91 =>
      aI_ M r91 0 v4 fun x96 =>
      ck_ (x89 + x96) fun x97 =>
      ck_ (x97 + 1) fun x99 =>
      lt_ x99 fun v3_100 =>
      ck_ (v4 + 1) fun v4_101 =>
      lp_M_breaks_77 kx107 a0 f v3_100 v4_101 M
    )

def k_M_breaks (a0 : Nat) (v1 : Int) (v2 : Int) (M : mm_T) : Option (Int × mm_T) :=
  pI_ M a0 11 0 0 fun M =>
  ob_ M a0 11 <| cl_ (k_M_noMap a0 v1 M) fun c7 M =>
  if ¬ c7 = 0 then (
    some (0, M)
  ) else (
    cl_ (k_M_in v2 1 6 M) fun c18 M =>
    jn_ (fun (sa0_29 : Nat) (s1_29 : Int) (M : mm_T) =>
      ob_ M sa0_29 11 <| cl_ (k_M_throwsIf sa0_29 s1_29 2 M) fun c30 M =>
      if c30 = 0 then (
        ob_ M a0 11 <| cl_ (k_M_laysBreak a0 v1 v2 M) fun _ M =>
        gI_ M a0 11 22 fun x45 =>
        jn_ (fun (M : mm_T) =>
          gI_ M a0 11 22 fun x59 =>
          if x59 = 0 then (
            some ((-1), M)
          ) else (
            some ((-2), M)
          )
        ) fun j58 =>
        if ¬ x45 = 0 then (
          j58 M
        ) else (
          gI_ M a0 11 25 fun x52 =>
          if ¬ x52 = 0 then (
            lt_ (0 : Int) fun v3_73 =>
            lt_ (0 : Int) fun v4_75 =>
            lp_M_breaks_77
              (fun (v3_107 : Int) (M : mm_T) =>
                some (v3_107, M)
              )
              a0 FU_ v3_73 v4_75 M
          ) else (
            j58 M
          )
        )
      ) else (
        some (0, M)
      )
    ) fun j29 =>
    if ¬ c18 = 0 then (
      j29 a0 0 M
    ) else (
      j29 a0 1 M
    )
  )
def k_M_doesGrow (a0 : Nat) (v1 : Int) (v2 : Int) (M : mm_T) : Option (Int × mm_T) :=
  ob_ M a0 11 <| cl_ (k_M_longOf a0 v1 v2 M) fun c3 M =>
  jn_ (fun (M : mm_T) =>
    zz_ 0 (some (0, M))
  ) fun j25 =>
  if c3 ≤ 1 then (
    j25 M
  ) else (
    ob_ M a0 11 <| cl_ (k_M_imageOf a0 v1 v2 0 M) fun c14 M =>
    if ¬ c14 = v2 then (
      j25 M
    ) else (
      zz_ 1 (some (1, M))
    )
  )
def lp_M_grows_19 (kx54 : Int → mm_T → Option (Int × mm_T)) (a0 : Nat) (v1 : Int) : Nat → Int → Int → mm_T → Option (Int × mm_T)
  | 0, _, _, _ => none
  | f + 1, v2, v3, M =>
    gR_ M a0 11 9 fun r21 =>
    aI_ M r21 0 0 fun x25 =>
    if x25 ≤ v3 then (
      kx54 v2 M
    ) else (
      ob_ M a0 11 <| cl_ (k_M_doesGrow a0 v1 v3 M) fun c33 M =>
      jn_ (fun (s0_46 : Int) (s1_46 : Int) (M : mm_T) =>
        lt_ (or_ s0_46 s1_46) fun v2_47 =>
        ck_ (v3 + 1) fun v3_48 =>
        lp_M_grows_19 kx54 a0 v1 f v2_47 v3_48 M
      ) fun j46 =>
      if c33 = 0 then (
        j46 v2 0 M
      ) else (
        j46 v2 (shl_ 1 v3) M
      )
    )

def k_M_grows (a0 : Nat) (v1 : Int) (M : mm_T) : Option (Int × mm_T) :=
  pI_ M a0 11 0 0 fun M =>
  ob_ M a0 11 <| cl_ (k_M_noMap a0 v1 M) fun c7 M =>
  if c7 = 0 then (
    lt_ (0 : Int) fun v2_16 =>
    lt_ (0 : Int) fun v3_18 =>
    lp_M_grows_19
      (fun (v2_54 : Int) (M : mm_T) =>
        some (v2_54, M)
      )
      a0 v1 FU_ v2_16 v3_18 M
  ) else (
    some (0, M)
  )
def lp_M_uniform_17 (kx50 : mm_T → Option (Int × mm_T)) (a0 : Nat) (v1 : Int) : Nat → Int → mm_T → Option (Int × mm_T)
  | 0, _, _ => none
  | f + 1, v2, M =>
    gR_ M a0 11 9 fun r19 =>
    aI_ M r19 0 0 fun x23 =>
    if x23 ≤ v2 then (
      kx50 M
    ) else (
      ob_ M a0 11 <| cl_ (k_M_longOf a0 v1 v2 M) fun c30 M =>
      ob_ M a0 11 <| cl_ (k_M_longOf a0 v1 0 M) fun c36 M =>
      if c30 = c36 then (
        ck_ (v2 + 1) fun v2_44 =>
        lp_M_uniform_17 kx50 a0 v1 f v2_44 M
      ) else (
        some ((-1), M)
      )
    )

def k_M_uniform (a0 : Nat) (v1 : Int) (M : mm_T) : Option (Int × mm_T) :=
  pI_ M a0 11 0 0 fun M =>
  ob_ M a0 11 <| cl_ (k_M_noMap a0 v1 M) fun c7 M =>
  if c7 = 0 then (
    lt_ (1 : Int) fun v2_16 =>
    lp_M_uniform_17
      (fun (M : mm_T) =>
        ob_ M a0 11 <| cl_ (k_M_longOf a0 v1 0 M) fun c53 M =>
        some (c53, M)
      )
      a0 v1 FU_ v2_16 M
  ) else (
    some (0, M)
  )
def lp_M_fill_100 (kx153 : Int → mm_T → Option (Int × mm_T)) (a0 : Nat) (v1 : Int) (v3 : Int) (v5 : Int) : Nat → Int → Int → mm_T → Option (Int × mm_T)
  | 0, _, _, _ => none
  | f + 1, v4, v6, M =>
    gR_ M a0 11 13 fun r105 =>
    aI_ M r105 0 v5 fun x110 =>
    ob_ M a0 11 <| cl_ (k_M_longOf a0 v1 x110 M) fun c111 M =>
    if c111 ≤ v6 then (
      kx153 v4 M
    ) else (
      if v3 ≤ v4 then (
        kx153 v4 M
      ) else (
        gR_ M a0 11 13 fun r124 =>
        ck_ (v4 + 1) fun v4_129 =>
        gR_ M a0 11 13 fun r135 =>
        aI_ M r135 0 v5 fun x140 =>
        ob_ M a0 11 <| cl_ (k_M_imageOf a0 v1 x140 v6 M) fun c143 M =>
        sI_ M r124 v4 c143 fun M =>
        ck_ (v6 + 1) fun v6_147 =>
        lp_M_fill_100 kx153 a0 v1 v3 v5 f v4_129 v6_147 M
      )
    )

def lp_M_fill_82 (kx159 : mm_T → Option (Int × mm_T)) (a0 : Nat) (v1 : Int) (v3 : Int) : Nat → Int → Int → mm_T → Option (Int × mm_T)
  | 0, _, _, _ => none
  | f + 1, v4, v5, M =>
    if v3 ≤ v4 then (
      kx159 M
    ) else (
      jn_ (fun (s0_98 : Int) (M : mm_T) =>
        lt_ s0_98 fun v6_98 =>
        lp_M_fill_100
          (fun (v4_153 : Int) (M : mm_T) =>
            ck_ (v5 + 1) fun v5_153 =>
            lp_M_fill_82 kx159 a0 v1 v3 f v4_153 v5_153 M
          )
          a0 v1 v3 v5 FU_ v4 v6_98 M
      ) fun j98 =>
      if ¬ v5 = 0 then (
        j98 0 M
      ) else (
        j98 1 M
      )
    )

def k_M_fill (a0 : Nat) (v1 : Int) (v2 : Int) (v3 : Int) (M : mm_T) : Option (Int × mm_T) :=
  pI_ M a0 11 0 0 fun M =>
  ob_ M a0 11 <| cl_ (k_M_noMap a0 v1 M) fun c7 M =>
  if ¬ c7 = 0 then (
    some (0, M)
  ) else (
    ob_ M a0 11 <| cl_ (k_M_noLetter a0 v2 2 M) fun c16 M =>
    if ¬ c16 = 0 then (
      some (0, M)
    ) else (
      cl_ (k_M_in v3 1 64 M) fun c27 M =>
      jn_ (fun (sa0_38 : Nat) (s1_38 : Int) (M : mm_T) =>
        ob_ M sa0_38 11 <| cl_ (k_M_throwsIf sa0_38 s1_38 2 M) fun c39 M =>
        if ¬ c39 = 0 then (
          some (0, M)
        ) else (
          ob_ M a0 11 <| cl_ (k_M_doesGrow a0 v1 v2 M) fun c49 M =>
          jn_ (fun (sa0_60 : Nat) (s1_60 : Int) (M : mm_T) =>
            ob_ M sa0_60 11 <| cl_ (k_M_throwsIf sa0_60 s1_60 3 M) fun c61 M =>
            if c61 = 0 then (
              gR_ M a0 11 13 fun r70 =>
              sI_ M r70 0 v2 fun M =>
              lt_ (1 : Int) fun v4_77 =>
              lt_ (0 : Int) fun v5_80 =>
              lp_M_fill_82
                (fun (M : mm_T) =>
                  ob_ M a0 11 <| cl_ (k_M_becomes a0 v3 M) fun _ M =>
                  ob_ M a0 11 <| cl_ (k_M_endsAt a0 M) fun c165 M =>
                  some (c165, M)
                )
                a0 v1 v3 FU_ v4_77 v5_80 M
            ) else (
              some (0, M)
            )
          ) fun j60 =>
          if ¬ c49 = 0 then (
            j60 a0 0 M
          ) else (
            j60 a0 1 M
          )
        )
      ) fun j38 =>
      if ¬ c27 = 0 then (
        j38 a0 0 M
      ) else (
        j38 a0 1 M
      )
    )
  )
def lp_M_sources_75 (kx123 : Int → mm_T → Option (Int64 × mm_T)) (a0 : Nat) (v1 : Int) (v2 : Int) (v3 : Int) (v4 : Int) : Nat → Int → Int → mm_T → Option (Int64 × mm_T)
  | 0, _, _, _ => none
  | f + 1, v5, v6, M =>
    if v4 ≤ v6 then (
      kx123 v5 M
    ) else (
      if v5 = 0 then (
        kx123 v5 M
      ) else (
        gR_ M a0 11 12 fun r88 =>
        ck_ (v2 - v4) fun x94 =>
        ck_ (x94 + v6) fun x97 =>
        aI_ M r88 0 x97 fun x98 =>
        ob_ M a0 11 <| cl_ (k_M_imageOf a0 v1 v3 v6 M) fun c104 M =>
        jn_ (fun (s0_115 : Int) (M : mm_T) =>
          lt_ s0_115 fun v5_115 =>
          ck_ (v6 + 1) fun v6_117 =>
          lp_M_sources_75 kx123 a0 v1 v2 v3 v4 f v5_115 v6_117 M
        ) fun j115 =>
        if ¬ x98 = c104 then (
          j115 0 M
        ) else (
          j115 1 M
        )
      )
    )

def lp_M_sources_41 (kx152 : mm_T → Option (Int64 × mm_T)) (a0 : Nat) (v1 : Int) (v2 : Int) : Nat → Int → mm_T → Option (Int64 × mm_T)
  | 0, _, _ => none
  | f + 1, v3, M =>
    gR_ M a0 11 9 fun r43 =>
    aI_ M r43 0 0 fun x47 =>
    if x47 ≤ v3 then (
      kx152 M
    ) else (
      ob_ M a0 11 <| cl_ (k_M_longOf a0 v1 v3 M) fun c54 M =>
      lt_ c54 fun v4_57 =>
      jn_ (fun (s0_70 : Int) (M : mm_T) =>
        lt_ s0_70 fun v5_70 =>
        lt_ (0 : Int) fun v6_73 =>
        lp_M_sources_75
          (fun (v5_123 : Int) (M : mm_T) =>
            jn_ (fun (M : mm_T) =>
              ck_ (v3 + 1) fun v3_146 =>
              lp_M_sources_41 kx152 a0 v1 v2 f v3_146 M
            ) fun j146 =>
            if v5_123 = 0 then (
              j146 M
            ) else (
              gR_ M a0 11 28 fun r129 =>
              aJ_ M r129 v2 fun x134 =>
              gR_ M a0 11 28 fun r136 =>
              ck_ (v2 - v4_57) fun x142 =>
              aJ_ M r136 x142 fun x143 =>
              sJ_ M r129 v2 (x134 + x143) fun M =>
              j146 M
            )
          )
          a0 v1 v2 v3 v4_57 FU_ v5_70 v6_73 M
      ) fun j70 =>
      if v2 < v4_57 then (
        j70 0 M
      ) else (
        j70 1 M
      )
    )

def lp_M_sources_24 (kx158 : mm_T → Option (Int64 × mm_T)) (a0 : Nat) (v1 : Int) : Nat → Int → mm_T → Option (Int64 × mm_T)
  | 0, _, _ => none
  | f + 1, v2, M =>
    gI_ M a0 11 14 fun x26 =>
    if x26 < v2 then (
      kx158 M
    ) else (
      gR_ M a0 11 28 fun r33 =>
      sJ_ M r33 v2 0 fun M =>
      lt_ (0 : Int) fun v3_40 =>
      lp_M_sources_41
        (fun (M : mm_T) =>
          ck_ (v2 + 1) fun v2_152 =>
          lp_M_sources_24 kx158 a0 v1 f v2_152 M
        )
        a0 v1 v2 FU_ v3_40 M
    )

def k_M_sources (a0 : Nat) (v1 : Int) (M : mm_T) : Option (Int64 × mm_T) :=
  pI_ M a0 11 0 0 fun M =>
  ob_ M a0 11 <| cl_ (k_M_noMap a0 v1 M) fun c7 M =>
  if c7 = 0 then (
    gR_ M a0 11 28 fun r16 =>
    sJ_ M r16 0 1 fun M =>
    lt_ (1 : Int) fun v2_23 =>
    lp_M_sources_24
      (fun (M : mm_T) =>
        gR_ M a0 11 28 fun r159 =>
        gI_ M a0 11 14 fun x163 =>
        aJ_ M r159 x163 fun x166 =>
        some (x166, M)
      )
      a0 v1 FU_ v2_23 M
  ) else (
    some (0, M)
  )
def lp_M_against_27 (kx64 : mm_T → Option (Int × mm_T)) (a0 : Nat) (v1 : Int) (v2 : Int) (v3 : Int) (v4 : Int) (v6 : Int) : Nat → Int → mm_T → Option (Int × mm_T)
  | 0, _, _ => none
  | f + 1, v7, M =>
    if v6 ≤ v7 then (
      kx64 M
    ) else (
      ck_ (v3 + v7) fun x40 =>
      ob_ M a0 11 <| cl_ (k_M_imageOf a0 v1 v2 x40 M) fun c41 M =>
      ob_ M a0 11 <| cl_ (k_M_imageOf a0 v1 v4 v7 M) fun c50 M =>
      if c41 = c50 then (
        ck_ (v7 + 1) fun v7_58 =>
        lp_M_against_27 kx64 a0 v1 v2 v3 v4 v6 f v7_58 M
      ) else (
        zz_ 0 (some (0, M))
      )
    )

def k_M_against (a0 : Nat) (v1 : Int) (v2 : Int) (v3 : Int) (v4 : Int) (M : mm_T) : Option (Int × mm_T) :=
  ob_ M a0 11 <| cl_ (k_M_longOf a0 v1 v2 M) fun c3 M =>
  ck_ (c3 - v3) fun x7 =>
  lt_ x7 fun v5_8 =>
  ob_ M a0 11 <| cl_ (k_M_longOf a0 v1 v4 M) fun c16 M =>
  lt_ (mn_ v5_8 c16) fun v6_22 =>
  lt_ (0 : Int) fun v7_25 =>
  lp_M_against_27
    (fun (M : mm_T) =>
      ob_ M a0 11 <| cl_ (k_M_longOf a0 v1 v4 M) fun c70 M =>
      if ¬ v5_8 = c70 then (
        jn_ (fun (s0_110 : Int) (M : mm_T) =>
          lt_ s0_110 fun v7_110 =>
          gR_ M a0 11 29 fun r113 =>
          aI_ M r113 2 v7_110 fun x118 =>
          jn_ (fun (s0_127 : Int) (M : mm_T) =>
            lt_ s0_127 fun v8_127 =>
            gR_ M a0 11 29 fun r130 =>
            sZ_ M r130 v7_110 1 fun M =>
            zz_ v8_127 (some (v8_127, M))
          ) fun j127 =>
          if ¬ x118 = 0 then (
            j127 0 M
          ) else (
            j127 1 M
          )
        ) fun j110 =>
        if v5_8 ≤ v6_22 then (
          ck_ (6 * v4) fun x106 =>
          ck_ (x106 + v6_22) fun x109 =>
          j110 x109 M
        ) else (
          ck_ (6 * v2) fun x93 =>
          ck_ (x93 + v3) fun x95 =>
          ck_ (x95 + v6_22) fun x98 =>
          j110 x98 M
        )
      ) else (
        pZ_ M a0 11 30 1 fun M =>
        zz_ 0 (some (0, M))
      )
    )
    a0 v1 v2 v3 v4 v6_22 FU_ v7_25 M
def lp_M_code_22 (kx44 : mm_T → Option (Int × mm_T)) (a0 : Nat) : Nat → Int → mm_T → Option (Int × mm_T)
  | 0, _, _ => none
  | f + 1, v2, M =>
    gR_ M a0 11 29 fun r24 =>
    al_ M r24 2 fun x27 =>
    if x27 ≤ v2 then (
      kx44 M
    ) else (
      gR_ M a0 11 29 fun r32 =>
      sZ_ M r32 v2 0 fun M =>
      ck_ (v2 + 1) fun v2_38 =>
      lp_M_code_22 kx44 a0 f v2_38 M
    )

def lp_M_code_61 (kx96 : Int → mm_T → Option (Int × mm_T)) (a0 : Nat) (v1 : Int) (v3 : Int) : Nat → Int → Int → mm_T → Option (Int × mm_T)
  | 0, _, _, _ => none
  | f + 1, v2, v4, M =>
    gR_ M a0 11 9 fun r64 =>
    aI_ M r64 0 0 fun x68 =>
    if x68 ≤ v4 then (
      kx96 v2 M
    ) else (
      jn_ (fun (v2_90 : Int) (M : mm_T) =>
        ck_ (v4 + 1) fun v4_90 =>
        lp_M_code_61 kx96 a0 v1 v3 f v2_90 v4_90 M
      ) fun j90 =>
      if v3 = v4 then (
        j90 v2 M
      ) else (
        ob_ M a0 11 <| cl_ (k_M_against a0 v1 v3 0 v4 M) fun c85 M =>
        lt_ (or_ v2 c85) fun v2_89 =>
        j90 v2_89 M
      )
    )

def lp_M_code_48 (kx102 : Int → mm_T → Option (Int × mm_T)) (a0 : Nat) (v1 : Int) : Nat → Int → Int → mm_T → Option (Int × mm_T)
  | 0, _, _, _ => none
  | f + 1, v2, v3, M =>
    gR_ M a0 11 9 fun r50 =>
    aI_ M r50 0 0 fun x54 =>
    if x54 ≤ v3 then (
      kx102 v2 M
    ) else (
      lt_ (0 : Int) fun v4_59 =>
      lp_M_code_61
        (fun (v2_96 : Int) (M : mm_T) =>
          ck_ (v3 + 1) fun v3_96 =>
          lp_M_code_48 kx102 a0 v1 f v2_96 v3_96 M
        )
        a0 v1 v3 FU_ v2 v4_59 M
    )

def lp_M_code_162 (kx192 : Int → mm_T → Option (Int × mm_T)) (a0 : Nat) (v1 : Int) (v3 : Int) (v4 : Int) : Nat → Int → Int → mm_T → Option (Int × mm_T)
  | 0, _, _, _ => none
  | f + 1, v2, v5, M =>
    gR_ M a0 11 9 fun r165 =>
    aI_ M r165 0 0 fun x169 =>
    if x169 ≤ v5 then (
      kx192 v2 M
    ) else (
      ob_ M a0 11 <| cl_ (k_M_against a0 v1 v3 v4 v5 M) fun c181 M =>
      lt_ (or_ v2 c181) fun v2_185 =>
      ck_ (v5 + 1) fun v5_186 =>
      lp_M_code_162 kx192 a0 v1 v3 v4 f v2_185 v5_186 M
    )

def lp_M_code_130 (kx198 : Int → mm_T → Option (Int × mm_T)) (a0 : Nat) (v1 : Int) (v3 : Int) : Nat → Int → Int → mm_T → Option (Int × mm_T)
  | 0, _, _, _ => none
  | f + 1, v2, v4, M =>
    ob_ M a0 11 <| cl_ (k_M_longOf a0 v1 v3 M) fun c135 M =>
    if c135 ≤ v4 then (
      kx198 v2 M
    ) else (
      gR_ M a0 11 29 fun r142 =>
      ck_ (6 * v3) fun x148 =>
      ck_ (x148 + v4) fun x151 =>
      aI_ M r142 2 x151 fun x152 =>
      jn_ (fun (v2_192 : Int) (M : mm_T) =>
        ck_ (v4 + 1) fun v4_192 =>
        lp_M_code_130 kx198 a0 v1 v3 f v2_192 v4_192 M
      ) fun j192 =>
      if ¬ x152 = 0 then (
        lt_ (0 : Int) fun v5_160 =>
        lp_M_code_162
          (fun (v2_192 : Int) (M : mm_T) =>
            j192 v2_192 M
          )
          a0 v1 v3 v4 FU_ v2 v5_160 M
      ) else (
        j192 v2 M
      )
    )

def lp_M_code_117 (kx204 : Int → mm_T → Option (Int × mm_T)) (a0 : Nat) (v1 : Int) : Nat → Int → Int → mm_T → Option (Int × mm_T)
  | 0, _, _, _ => none
  | f + 1, v2, v3, M =>
    gR_ M a0 11 9 fun r119 =>
    aI_ M r119 0 0 fun x123 =>
    if x123 ≤ v3 then (
      kx204 v2 M
    ) else (
      lt_ (1 : Int) fun v4_128 =>
      lp_M_code_130
        (fun (v2_198 : Int) (M : mm_T) =>
          ck_ (v3 + 1) fun v3_198 =>
          lp_M_code_117 kx204 a0 v1 f v2_198 v3_198 M
        )
        a0 v1 v3 FU_ v2 v4_128 M
    )

def lp_M_code_102 (kx207 : mm_T → Option (Int × mm_T)) (a0 : Nat) (v1 : Int) : Nat → Int → mm_T → Option (Int × mm_T)
  | 0, _, _ => none
  | f + 1, v2, M =>
    if v2 = 0 then (
      kx207 M
    ) else (
      gI_ M a0 11 30 fun x107 =>
      if ¬ x107 = 0 then (
        kx207 M
      ) else (
        lt_ (0 : Int) fun v2_114 =>
        lt_ (0 : Int) fun v3_116 =>
        lp_M_code_117
          (fun (v2_204 : Int) (M : mm_T) =>
            lp_M_code_102 kx207 a0 v1 f v2_204 M
          )
          a0 v1 FU_ v2_114 v3_116 M
      )
    )

def k_M_code (a0 : Nat) (v1 : Int) (M : mm_T) : Option (Int × mm_T) :=
  pI_ M a0 11 0 0 fun M =>
  ob_ M a0 11 <| cl_ (k_M_noMap a0 v1 M) fun c7 M =>
  if c7 = 0 then (
    pZ_ M a0 11 30 0 fun M =>
    lt_ (0 : Int) fun v2_21 =>
    lp_M_code_22
      (fun (M : mm_T) =>
        lt_ (1 : Int) fun v2_45 =>
        lt_ (0 : Int) fun v3_47 =>
        lp_M_code_48
          (fun (v2_102 : Int) (M : mm_T) =>
            lp_M_code_102
              (fun (M : mm_T) =>
                gI_ M a0 11 30 fun x208 =>
                if ¬ x208 = 0 then (
                  zz_ 0 (some (0, M))
                ) else (
                  zz_ 1 (some (1, M))
                )
              )
              a0 v1 FU_ v2_102 M
          )
          a0 v1 FU_ v2_45 v3_47 M
      )
      a0 FU_ v2_21 M
  ) else (
    zz_ 0 (some (0, M))
  )
def k_M_noPattern (a0 : Nat) (v1 : Int) (M : mm_T) : Option (Int × mm_T) :=
  gR_ M a0 11 9 fun r4 =>
  aI_ M r4 0 5 fun x8 =>
  ck_ (x8 - 1) fun x10 =>
  cl_ (k_M_in v1 0 x10 M) fun c11 M =>
  jn_ (fun (sa0_22 : Nat) (s1_22 : Int) (M : mm_T) =>
    ob_ M sa0_22 11 <| cl_ (k_M_throwsIf sa0_22 s1_22 1 M) fun c23 M =>
    zz_ c23 (some (c23, M))
  ) fun j22 =>
  if ¬ c11 = 0 then (
    j22 a0 0 M
  ) else (
    j22 a0 1 M
  )
def lp_M_met_60 (kx111 : mm_T → Option (Int × mm_T)) (a0 : Nat) (v1 : Int) (v2 : Int) (v3 : Int) : Nat → Int → mm_T → Option (Int × mm_T)
  | 0, _, _ => none
  | f + 1, v4, M =>
    if v4 = 0 then (
      kx111 M
    ) else (
      gR_ M a0 11 12 fun r67 =>
      ob_ M a0 11 <| cl_ (k_M_fitsAt a0 r67 v3 v1 M) fun c72 M =>
      if c72 = 0 then (
        gI_ M a0 11 14 fun x98 =>
        ck_ (x98 - v3) fun x102 =>
        ob_ M a0 11 <| cl_ (k_M_nextSizes a0 v1 x102 M) fun c103 M =>
        lt_ c103 fun v4_106 =>
        lp_M_met_60 kx111 a0 v1 v2 v3 f v4_106 M
      ) else (
        if ¬ v2 = 0 then (
          gR_ M a0 11 17 fun r87 =>
          ck_ (v2 - 1) fun x92 =>
          aI_ M r87 0 x92 fun x93 =>
          some (x93, M)
        ) else (
          some (v3, M)
        )
      )
    )

def lp_M_met_39 (kx117 : mm_T → Option (Int × mm_T)) (a0 : Nat) (v1 : Int) (v2 : Int) : Nat → Int → mm_T → Option (Int × mm_T)
  | 0, _, _ => none
  | f + 1, v3, M =>
    gI_ M a0 11 14 fun x41 =>
    if x41 ≤ v3 then (
      kx117 M
    ) else (
      gI_ M a0 11 14 fun x50 =>
      ck_ (x50 - v3) fun x54 =>
      ob_ M a0 11 <| cl_ (k_M_firstSizes a0 v1 x54 M) fun c55 M =>
      lt_ c55 fun v4_58 =>
      lp_M_met_60
        (fun (M : mm_T) =>
          ck_ (v3 + 1) fun v3_111 =>
          lp_M_met_39 kx117 a0 v1 v2 f v3_111 M
        )
        a0 v1 v2 v3 FU_ v4_58 M
    )

def k_M_met (a0 : Nat) (v1 : Int) (v2 : Int) (M : mm_T) : Option (Int × mm_T) :=
  pI_ M a0 11 0 0 fun M =>
  ob_ M a0 11 <| cl_ (k_M_noPattern a0 v1 M) fun c7 M =>
  if ¬ c7 = 0 then (
    some (0, M)
  ) else (
    cl_ (k_M_in v2 0 3 M) fun c17 M =>
    jn_ (fun (sa0_28 : Nat) (s1_28 : Int) (M : mm_T) =>
      ob_ M sa0_28 11 <| cl_ (k_M_throwsIf sa0_28 s1_28 2 M) fun c29 M =>
      if c29 = 0 then (
        lt_ (0 : Int) fun v3_38 =>
        lp_M_met_39
          (fun (M : mm_T) =>
            some ((-1), M)
          )
          a0 v1 v2 FU_ v3_38 M
      ) else (
        some (0, M)
      )
    ) fun j28 =>
    if ¬ c17 = 0 then (
      j28 a0 0 M
    ) else (
      j28 a0 1 M
    )
  )
def lp_M_whole_51 (kx111 : Int → mm_T → Option (Int × mm_T)) (a0 : Nat) (v1 : Int) (v2 : Int) (v3 : Int) : Nat → Int → Int → mm_T → Option (Int × mm_T)
  | 0, _, _, _ => none
  | f + 1, v4, v5, M =>
    if v5 = 0 then (
      kx111 v4 M
    ) else (
      ob_ M a0 11 <| cl_ (k_M_longBy a0 v1 M) fun c58 M =>
      gI_ M a0 11 14 fun x62 =>
      jn_ (fun (v4_97 : Int) (M : mm_T) =>
        gI_ M a0 11 14 fun x100 =>
        ob_ M a0 11 <| cl_ (k_M_nextSizes a0 v1 x100 M) fun c103 M =>
        lt_ c103 fun v5_106 =>
        lp_M_whole_51 kx111 a0 v1 v2 v3 f v4_97 v5_106 M
      ) fun j97 =>
      if ¬ c58 = x62 then (
        j97 v4 M
      ) else (
        gR_ M a0 11 12 fun r70 =>
        ob_ M a0 11 <| cl_ (k_M_fitsAt a0 r70 0 v1 M) fun c75 M =>
        if c75 = 0 then (
          j97 v4 M
        ) else (
          if ¬ v4 = v2 then (
            ck_ (v4 + 1) fun v4_94 =>
            j97 v4_94 M
          ) else (
            gR_ M a0 11 17 fun r88 =>
            aI_ M r88 0 v3 fun x92 =>
            some (x92, M)
          )
        )
      )
    )

def k_M_whole (a0 : Nat) (v1 : Int) (v2 : Int) (v3 : Int) (M : mm_T) : Option (Int × mm_T) :=
  pI_ M a0 11 0 0 fun M =>
  ob_ M a0 11 <| cl_ (k_M_noPattern a0 v1 M) fun c7 M =>
  if ¬ c7 = 0 then (
    some (0, M)
  ) else (
    cl_ (k_M_in v3 0 2 M) fun c17 M =>
    jn_ (fun (sa0_28 : Nat) (s1_28 : Int) (M : mm_T) =>
      ob_ M sa0_28 11 <| cl_ (k_M_throwsIf sa0_28 s1_28 2 M) fun c29 M =>
      if c29 = 0 then (
        lt_ (0 : Int) fun v4_38 =>
        gI_ M a0 11 14 fun x43 =>
        ob_ M a0 11 <| cl_ (k_M_firstSizes a0 v1 x43 M) fun c46 M =>
        lt_ c46 fun v5_49 =>
        lp_M_whole_51
          (fun (v4_111 : Int) (M : mm_T) =>
            if ¬ v2 = (-1) then (
              some ((-1), M)
            ) else (
              some (v4_111, M)
            )
          )
          a0 v1 v2 v3 FU_ v4_38 v5_49 M
      ) else (
        some (0, M)
      )
    ) fun j28 =>
    if ¬ c17 = 0 then (
      j28 a0 0 M
    ) else (
      j28 a0 1 M
    )
  )
def lp_M_lettersOf_4 (kx34 : Int → mm_T → Option (Int × mm_T)) (a0 : Nat) (v1 : Int) : Nat → Int → Int → mm_T → Option (Int × mm_T)
  | 0, _, _, _ => none
  | f + 1, v2, v3, M =>
    if 3 ≤ v3 then (
      kx34 v2 M
    ) else (
      ob_ M a0 11 <| cl_ (k_M_hasLetter a0 v1 v3 M) fun c13 M =>
      jn_ (fun (s0_26 : Int) (s1_26 : Int) (M : mm_T) =>
        lt_ (or_ s0_26 s1_26) fun v2_27 =>
        ck_ (v3 + 1) fun v3_28 =>
        lp_M_lettersOf_4 kx34 a0 v1 f v2_27 v3_28 M
      ) fun j26 =>
      if c13 = 0 then (
        j26 v2 0 M
      ) else (
        j26 v2 (shl_ 1 v3) M
      )
    )

def k_M_lettersOf (a0 : Nat) (v1 : Int) (M : mm_T) : Option (Int × mm_T) :=
  lt_ (0 : Int) fun v2_1 =>
  lt_ (0 : Int) fun v3_3 =>
  lp_M_lettersOf_4
    (fun (v2_34 : Int) (M : mm_T) =>
      some (v2_34, M)
    )
    a0 v1 FU_ v2_1 v3_3 M
def lp_M_endOf_2 (kx22 : Int → mm_T → Option (Int × mm_T)) (a0 : Nat) : Nat → Int → mm_T → Option (Int × mm_T)
  | 0, _, _ => none
  | f + 1, v2, M =>
    gR_ M a0 11 31 fun r3 =>
    aI_ M r3 0 v2 fun x7 =>
    if x7 = v2 then (
      kx22 v2 M
    ) else (
      gR_ M a0 11 31 fun r13 =>
      aI_ M r13 0 v2 fun x17 =>
      lt_ x17 fun v2_18 =>
      lp_M_endOf_2 kx22 a0 f v2_18 M
    )

def k_M_endOf (a0 : Nat) (v1 : Int) (M : mm_T) : Option (Int × mm_T) :=
  lt_ v1 fun v2_1 =>
  lp_M_endOf_2
    (fun (v2_22 : Int) (M : mm_T) =>
      some (v2_22, M)
    )
    a0 FU_ v2_1 M
def lp_M_isLoose_3 (kx25 : mm_T → Option (Int × mm_T)) (a0 : Nat) : Nat → Int → mm_T → Option (Int × mm_T)
  | 0, _, _ => none
  | f + 1, v4, M =>
    if 6 ≤ v4 then (
      kx25 M
    ) else (
      gR_ M a0 11 31 fun r11 =>
      sI_ M r11 v4 v4 fun M =>
      ck_ (v4 + 1) fun v4_19 =>
      lp_M_isLoose_3 kx25 a0 f v4_19 M
    )

def lp_M_isLoose_31 (kx103 : mm_T → Option (Int × mm_T)) (a0 : Nat) (v1 : Int) (v2 : Int) : Nat → Int → Int → mm_T → Option (Int × mm_T)
  | 0, _, _, _ => none
  | f + 1, v4, v5, M =>
    gR_ M a0 11 9 fun r34 =>
    ck_ (166 + v1) fun x41 =>
    aI_ M r34 0 x41 fun x42 =>
    if x42 ≤ v5 then (
      kx103 M
    ) else (
      ob_ M a0 11 <| cl_ (k_M_letterOf a0 v1 v5 M) fun c50 M =>
      lt_ c50 fun v6_53 =>
      jn_ (fun (v4_97 : Int) (M : mm_T) =>
        ck_ (v5 + 1) fun v5_97 =>
        lp_M_isLoose_31 kx103 a0 v1 v2 f v4_97 v5_97 M
      ) fun j97 =>
      if ¬ and_ (shr_ v2 v6_53) 1 = 1 then (
        jn_ (fun (M : mm_T) =>
          lt_ v6_53 fun v4_95 =>
          j97 v4_95 M
        ) fun j93 =>
        if v4 = (-1) then (
          j93 M
        ) else (
          gR_ M a0 11 31 fun r75 =>
          ob_ M a0 11 <| cl_ (k_M_endOf a0 v4 M) fun c81 M =>
          ck_ (3 + v6_53) fun x88 =>
          ob_ M a0 11 <| cl_ (k_M_endOf a0 x88 M) fun c89 M =>
          sI_ M r75 c81 c89 fun M =>
          j93 M
        )
      ) else (
        j97 v4 M
      )
    )

def lp_M_isLoose_115 (kx166 : mm_T → Option (Int × mm_T)) (a0 : Nat) (v3 : Int) (v5 : Int) : Nat → Int → mm_T → Option (Int × mm_T)
  | 0, _, _ => none
  | f + 1, v6, M =>
    if 3 ≤ v6 then (
      kx166 M
    ) else (
      jn_ (fun (M : mm_T) =>
        ck_ (v6 + 1) fun v6_160 =>
        lp_M_isLoose_115 kx166 a0 v3 v5 f v6_160 M
      ) fun j160 =>
      if ¬ and_ (shr_ v3 v5) 1 = 1 then (
        j160 M
      ) else (
        if ¬ and_ (shr_ v3 v6) 1 = 1 then (
          j160 M
        ) else (
          ob_ M a0 11 <| cl_ (k_M_endOf a0 v5 M) fun c144 M =>
          ck_ (3 + v6) fun x151 =>
          ob_ M a0 11 <| cl_ (k_M_endOf a0 x151 M) fun c152 M =>
          if ¬ c144 = c152 then (
            j160 M
          ) else (
            zz_ 0 (some (0, M))
          )
        )
      )
    )

def lp_M_isLoose_106 (kx172 : mm_T → Option (Int × mm_T)) (a0 : Nat) (v3 : Int) : Nat → Int → mm_T → Option (Int × mm_T)
  | 0, _, _ => none
  | f + 1, v5, M =>
    if 3 ≤ v5 then (
      kx172 M
    ) else (
      lt_ (0 : Int) fun v6_113 =>
      lp_M_isLoose_115
        (fun (M : mm_T) =>
          ck_ (v5 + 1) fun v5_166 =>
          lp_M_isLoose_106 kx172 a0 v3 f v5_166 M
        )
        a0 v3 v5 FU_ v6_113 M
    )

def k_M_isLoose (a0 : Nat) (v1 : Int) (v2 : Int) (v3 : Int) (M : mm_T) : Option (Int × mm_T) :=
  lt_ (0 : Int) fun v4_1 =>
  lp_M_isLoose_3
    (fun (M : mm_T) =>
      lt_ (-1 : Int) fun v4_26 =>
      lt_ (0 : Int) fun v5_29 =>
      lp_M_isLoose_31
        (fun (M : mm_T) =>
          lt_ (0 : Int) fun v5_104 =>
          lp_M_isLoose_106
            (fun (M : mm_T) =>
              zz_ 1 (some (1, M))
            )
            a0 v3 FU_ v5_104 M
        )
        a0 v1 v2 FU_ v4_26 v5_29 M
    )
    a0 FU_ v4_1 M
def lp_M_cannotBe_5 (kx48 : Int → mm_T → Option (Int × mm_T)) (a0 : Nat) (v1 : Int) (v2 : Int) : Nat → Int → Int → mm_T → Option (Int × mm_T)
  | 0, _, _, _ => none
  | f + 1, v3, v4, M =>
    gR_ M a0 11 9 fun r8 =>
    ck_ (166 + v1) fun x15 =>
    aI_ M r8 0 x15 fun x16 =>
    if x16 ≤ v4 then (
      kx48 v3 M
    ) else (
      ob_ M a0 11 <| cl_ (k_M_letterOf a0 v1 v4 M) fun c26 M =>
      jn_ (fun (s0_40 : Int) (s1_40 : Int) (M : mm_T) =>
        ck_ (s0_40 + s1_40) fun x40 =>
        lt_ x40 fun v3_41 =>
        ck_ (v4 + 1) fun v4_42 =>
        lp_M_cannotBe_5 kx48 a0 v1 v2 f v3_41 v4_42 M
      ) fun j40 =>
      if ¬ and_ (shr_ v2 c26) 1 = 0 then (
        j40 v3 0 M
      ) else (
        j40 v3 1 M
      )
    )

def lp_M_cannotBe_69 (kx117 : mm_T → Option (Int × mm_T)) (rec : Nat → Int → Int → mm_T → Option (Int × mm_T)) (a0 : Nat) (v1 : Int) (v2 : Int) (v4 : Int) : Nat → Int → mm_T → Option (Int × mm_T)
  | 0, _, _ => none
  | f + 1, v5, M =>
    if v4 ≤ v5 then (
      kx117 M
    ) else (
      jn_ (fun (M : mm_T) =>
        ck_ (v5 + 1) fun v5_111 =>
        lp_M_cannotBe_69 kx117 rec a0 v1 v2 v4 f v5_111 M
      ) fun j111 =>
      if ¬ and_ v5 (xor_ v4 (-1)) = 0 then (
        j111 M
      ) else (
        ob_ M a0 11 <| cl_ (k_M_isLoose a0 v1 v2 v5 M) fun c91 M =>
        if c91 = 0 then (
          j111 M
        ) else (
          ob_ M a0 11 <| cl_ (rec a0 v1 (or_ v2 v5) M) fun c103 M =>
          if c103 = 0 then (
            j111 M
          ) else (
            zz_ 1 (some (1, M))
          )
        )
      )
    )

def k_M_cannotBe : Nat → Nat → Int → Int → mm_T → Option (Int × mm_T)
  | 0, _, _, _, _ => none
  | d + 1, a0, v1, v2, M =>
    lt_ (0 : Int) fun v3_1 =>
    lt_ (0 : Int) fun v4_3 =>
    lp_M_cannotBe_5
      (fun (v3_48 : Int) (M : mm_T) =>
        if ¬ v3_48 = 1 then (
          ob_ M a0 11 <| cl_ (k_M_lettersOf a0 v1 M) fun c57 M =>
          lt_ (and_ c57 (xor_ v2 (-1))) fun v4_64 =>
          lt_ (1 : Int) fun v5_67 =>
          lp_M_cannotBe_69
            (fun (M : mm_T) =>
              zz_ 0 (some (0, M))
            )
            (k_M_cannotBe d) a0 v1 v2 v4_64 FU_ v5_67 M
        ) else (
          zz_ 1 (some (1, M))
        )
      )
      a0 v1 v2 FU_ v3_1 v4_3 M
def k_M_cannot (a0 : Nat) (v1 : Int) (M : mm_T) : Option (Int × mm_T) :=
  pI_ M a0 11 0 0 fun M =>
  ob_ M a0 11 <| cl_ (k_M_noPattern a0 v1 M) fun c7 M =>
  jn_ (fun (M : mm_T) =>
    zz_ 0 (some (0, M))
  ) fun j26 =>
  if ¬ c7 = 0 then (
    j26 M
  ) else (
    ob_ M a0 11 <| cl_ (k_M_cannotBe 8 a0 v1 0 M) fun c16 M =>
    if c16 = 0 then (
      j26 M
    ) else (
      zz_ 1 (some (1, M))
    )
  )
def lp_M_loose_20 (kx71 : Int → mm_T → Option (Int × mm_T)) (a0 : Nat) (v1 : Int) (v2 : Int) : Nat → Int → Int → mm_T → Option (Int × mm_T)
  | 0, _, _, _ => none
  | f + 1, v3, v4, M =>
    if 8 ≤ v4 then (
      kx71 v3 M
    ) else (
      ob_ M a0 11 <| cl_ (k_M_lettersOf a0 v1 M) fun c31 M =>
      jn_ (fun (v3_65 : Int) (M : mm_T) =>
        ck_ (v4 + 1) fun v4_65 =>
        lp_M_loose_20 kx71 a0 v1 v2 f v3_65 v4_65 M
      ) fun j65 =>
      if ¬ and_ v4 (xor_ c31 (-1)) = 0 then (
        j65 v3 M
      ) else (
        ob_ M a0 11 <| cl_ (k_M_isLoose a0 v1 0 v4 M) fun c45 M =>
        if ¬ c45 = 0 then (
          if ¬ v3 = v2 then (
            ck_ (v3 + 1) fun v3_62 =>
            j65 v3_62 M
          ) else (
            some (v4, M)
          )
        ) else (
          j65 v3 M
        )
      )
    )

def k_M_loose (a0 : Nat) (v1 : Int) (v2 : Int) (M : mm_T) : Option (Int × mm_T) :=
  pI_ M a0 11 0 0 fun M =>
  ob_ M a0 11 <| cl_ (k_M_noPattern a0 v1 M) fun c7 M =>
  if c7 = 0 then (
    lt_ (0 : Int) fun v3_16 =>
    lt_ (1 : Int) fun v4_18 =>
    lp_M_loose_20
      (fun (v3_71 : Int) (M : mm_T) =>
        if ¬ v2 = (-1) then (
          some ((-1), M)
        ) else (
          some (v3_71, M)
        )
      )
      a0 v1 v2 FU_ v3_16 v4_18 M
  ) else (
    some (0, M)
  )
def k_M_pattern (a0 : Nat) (v1 : Int) (v2 : Int) (M : mm_T) : Option (Int × mm_T) :=
  pI_ M a0 11 0 0 fun M =>
  ob_ M a0 11 <| cl_ (k_M_noPattern a0 v1 M) fun c7 M =>
  if ¬ c7 = 0 then (
    some (0, M)
  ) else (
    cl_ (k_M_in v2 0 2 M) fun c17 M =>
    jn_ (fun (sa0_28 : Nat) (s1_28 : Int) (M : mm_T) =>
      ob_ M sa0_28 11 <| cl_ (k_M_throwsIf sa0_28 s1_28 2 M) fun c29 M =>
      if c29 = 0 then (
        if ¬ v2 = 0 then (
          if ¬ v2 = 1 then (
            gR_ M a0 11 9 fun r68 =>
            ck_ (194 + v1) fun x75 =>
            aI_ M r68 0 x75 fun x76 =>
            some (x76, M)
          ) else (
            ob_ M a0 11 <| cl_ (k_M_lettersOf a0 v1 M) fun c61 M =>
            some (c61, M)
          )
        ) else (
          gR_ M a0 11 9 fun r42 =>
          ck_ (166 + v1) fun x49 =>
          aI_ M r42 0 x49 fun x50 =>
          some (x50, M)
        )
      ) else (
        some (0, M)
      )
    ) fun j28 =>
    if ¬ c17 = 0 then (
      j28 a0 0 M
    ) else (
      j28 a0 1 M
    )
  )
def k_M_limit (a0 : Nat) (v1 : Int) (v2 : Int) (v3 : Int) (M : mm_T) : Option (Int × mm_T) :=
  pI_ M a0 11 0 0 fun M =>
  cl_ (k_M_in v1 0 2 M) fun c9 M =>
  jn_ (fun (sa0_40 : Nat) (s1_40 : Int) (M : mm_T) =>
    ob_ M sa0_40 11 <| cl_ (k_M_throwsIf sa0_40 s1_40 1 M) fun c41 M =>
    if c41 = 0 then (
      gR_ M a0 11 9 fun r50 =>
      aI_ M r50 0 1 fun x54 =>
      lt_ x54 fun v4_55 =>
      gR_ M a0 11 9 fun r58 =>
      sI_ M r58 1 v1 fun M =>
      gR_ M a0 11 9 fun r65 =>
      jn_ (fun (sa0_78 : Nat) (s1_78 : Int) (s2_78 : Int) (M : mm_T) =>
        sI_ M sa0_78 s1_78 s2_78 fun M =>
        gR_ M a0 11 9 fun r80 =>
        jn_ (fun (sa0_93 : Nat) (s1_93 : Int) (s2_93 : Int) (M : mm_T) =>
          sI_ M sa0_93 s1_93 s2_93 fun M =>
          some (v4_55, M)
        ) fun j93 =>
        if ¬ v1 = 0 then (
          j93 r80 3 v3 M
        ) else (
          j93 r80 3 0 M
        )
      ) fun j78 =>
      if ¬ v1 = 0 then (
        j78 r65 2 v2 M
      ) else (
        j78 r65 2 0 M
      )
    ) else (
      some (0, M)
    )
  ) fun j40 =>
  jn_ (fun (sa0_35 : Nat) (M : mm_T) =>
    j40 sa0_35 1 M
  ) fun j35 =>
  if c9 = 0 then (
    j35 a0 M
  ) else (
    cl_ (k_M_in v2 1 99 M) fun c19 M =>
    if c19 = 0 then (
      j35 a0 M
    ) else (
      cl_ (k_M_in v3 1 9 M) fun c29 M =>
      if ¬ c29 = 0 then (
        j40 a0 0 M
      ) else (
        j35 a0 M
      )
    )
  )
def k_M_avoid (a0 : Nat) (v1 : Int) (v2 : Int) (M : mm_T) : Option (Int × mm_T) :=
  pI_ M a0 11 0 0 fun M =>
  ob_ M a0 11 <| cl_ (k_M_noPattern a0 v1 M) fun c7 M =>
  if c7 = 0 then (
    gR_ M a0 11 9 fun r16 =>
    ck_ (194 + v1) fun x23 =>
    aI_ M r16 0 x23 fun x24 =>
    jn_ (fun (s0_34 : Int) (M : mm_T) =>
      lt_ s0_34 fun v3_34 =>
      gR_ M a0 11 9 fun r36 =>
      ck_ (194 + v1) fun x43 =>
      jn_ (fun (sa0_53 : Nat) (s1_53 : Int) (s2_53 : Int) (M : mm_T) =>
        sI_ M sa0_53 s1_53 s2_53 fun M =>
        zz_ v3_34 (some (v3_34, M))
      ) fun j53 =>
      if v2 = 0 then (
        j53 r36 x43 0 M
      ) else (
        j53 r36 x43 1 M
      )
    ) fun j34 =>
    if ¬ x24 = 1 then (
      j34 0 M
    ) else (
      j34 1 M
    )
  ) else (
    zz_ 0 (some (0, M))
  )
def lp_M_count_9 (kx38 : Int → mm_T → Option (Int × mm_T)) (a0 : Nat) : Nat → Int → Int → mm_T → Option (Int × mm_T)
  | 0, _, _, _ => none
  | f + 1, v2, v3, M =>
    gR_ M a0 11 9 fun r11 =>
    aI_ M r11 0 5 fun x15 =>
    if x15 ≤ v3 then (
      kx38 v2 M
    ) else (
      gR_ M a0 11 9 fun r21 =>
      ck_ (194 + v3) fun x28 =>
      aI_ M r21 0 x28 fun x29 =>
      ck_ (v2 + x29) fun x30 =>
      lt_ x30 fun v2_31 =>
      ck_ (v3 + 1) fun v3_32 =>
      lp_M_count_9 kx38 a0 f v2_31 v3_32 M
    )

def k_M_count (a0 : Nat) (v1 : Int) (M : mm_T) : Option (Int × mm_T) :=
  pI_ M a0 11 0 0 fun M =>
  lt_ (0 : Int) fun v2_6 =>
  lt_ (0 : Int) fun v3_8 =>
  lp_M_count_9
    (fun (v2_38 : Int) (M : mm_T) =>
      sw_ v1 0 9 (
        some ((-1), M)
      ) fun i => match i with
        | 0 =>
          gR_ M a0 11 9 fun r89 =>
          aI_ M r89 0 0 fun x93 =>
          some (x93, M)
        | 1 =>
          gR_ M a0 11 9 fun r96 =>
          aI_ M r96 0 4 fun x100 =>
          some (x100, M)
        | 2 =>
          gR_ M a0 11 9 fun r103 =>
          aI_ M r103 0 5 fun x107 =>
          some (x107, M)
        | 3 =>
          some (v2_38, M)
        | 4 =>
          gI_ M a0 11 14 fun x112 =>
          some (x112, M)
        | 5 =>
          gI_ M a0 11 15 fun x117 =>
          some (x117, M)
        | 6 =>
          gR_ M a0 11 9 fun r122 =>
          aI_ M r122 0 2 fun x126 =>
          some (x126, M)
        | 7 =>
          gR_ M a0 11 9 fun r129 =>
          aI_ M r129 0 3 fun x133 =>
          some (x133, M)
        | 8 =>
          gR_ M a0 11 9 fun r136 =>
          aI_ M r136 0 1 fun x140 =>
          some (x140, M)
        | _ => none
    )
    a0 FU_ v2_6 v3_8 M
def k_L_read (a0 : Nat) (a1 : Nat) (M : mm_T) : Option (Int × mm_T) :=
  ob_ M a0 10 <| cx_ (k_X_read a0 M) (fun E M =>
    if E = 1 then (
      some (1, M)
    ) else
    none) fun c3 M =>
  sJ_ M a1 0 (i2l_ c3) fun M =>
  some (0, M)
def k_L_word (a0 : Nat) (a1 : Nat) (M : mm_T) : Option (Int × mm_T) :=
  ob_ M a0 10 <| cx_ (k_X_word a0 M) (fun E M =>
    if E = 1 then (
      some (1, M)
    ) else
    none) fun c3 M =>
  sJ_ M a1 0 (i2l_ c3) fun M =>
  some (0, M)
def k_L_push (a0 : Nat) (v1 : Int) (a2 : Nat) (M : mm_T) : Option (Int × mm_T) :=
  ob_ M a0 10 <| cx_ (k_X_push a0 v1 M) (fun E M =>
    if E = 1 then (
      some (1, M)
    ) else
    if E = 2 then (
      some (2, M)
    ) else
    none) fun c4 M =>
  sJ_ M a2 0 (i2l_ c4) fun M =>
  some (0, M)
def k_L_pop (a0 : Nat) (a1 : Nat) (M : mm_T) : Option (Int × mm_T) :=
  ob_ M a0 10 <| cx_ (k_X_pop a0 M) (fun E M =>
    if E = 2 then (
      some (1, M)
    ) else
    none) fun c3 M =>
  sJ_ M a1 0 (i2l_ c3) fun M =>
  some (0, M)
def k_L_greatest (a0 : Nat) (v1 : Int) (a2 : Nat) (M : mm_T) : Option (Int × mm_T) :=
  ob_ M a0 10 <| cx_ (k_X_greatest a0 v1 M) (fun E M =>
    if E = 4 then (
      some (1, M)
    ) else
    none) fun c4 M =>
  sJ_ M a2 0 (i2l_ c4) fun M =>
  some (0, M)
def k_L_run (a0 : Nat) (v1 : Int) (v2 : Int) (a3 : Nat) (M : mm_T) : Option (Int × mm_T) :=
  ob_ M a0 10 <| cx_ (k_X_run a0 v1 v2 M) (fun E M =>
    if E = 4 then (
      some (1, M)
    ) else
    none) fun c5 M =>
  sJ_ M a3 0 (i2l_ c5) fun M =>
  some (0, M)
def k_L_factors (a0 : Nat) (v1 : Int) (a2 : Nat) (M : mm_T) : Option (Int × mm_T) :=
  ob_ M a0 10 <| cx_ (k_X_factors a0 v1 M) (fun E M =>
    if E = 1 then (
      some (1, M)
    ) else
    none) fun c4 M =>
  sJ_ M a2 0 (i2l_ c4) fun M =>
  some (0, M)
def k_L_met (a0 : Nat) (v1 : Int) (v2 : Int) (a3 : Nat) (M : mm_T) : Option (Int × mm_T) :=
  ob_ M a0 10 <| cx_ (k_X_met a0 v1 v2 M) (fun E M =>
    if E = 3 then (
      some (1, M)
    ) else
    if E = 4 then (
      some (2, M)
    ) else
    none) fun c5 M =>
  sJ_ M a3 0 (i2l_ c5) fun M =>
  some (0, M)
def k_L_first (a0 : Nat) (v1 : Int) (a2 : Nat) (M : mm_T) : Option (Int × mm_T) :=
  ob_ M a0 10 <| cx_ (k_X_first a0 v1 M) (fun E M =>
    if E = 1 then (
      some (1, M)
    ) else
    none) fun c4 M =>
  sJ_ M a2 0 (i2l_ c4) fun M =>
  some (0, M)
def k_L_next (a0 : Nat) (a1 : Nat) (M : mm_T) : Option (Int × mm_T) :=
  ob_ M a0 10 <| cx_ (k_X_next a0 M) (fun E M =>
    if E = 2 then (
      some (1, M)
    ) else
    none) fun c3 M =>
  sJ_ M a1 0 (i2l_ c3) fun M =>
  some (0, M)
def k_L_many (a0 : Nat) (v1 : Int) (a2 : Nat) (M : mm_T) : Option (Int × mm_T) :=
  ob_ M a0 10 <| cx_ (k_X_many a0 v1 M) (fun E M =>
    if E = 1 then (
      some (1, M)
    ) else
    none) fun c4 M =>
  sJ_ M a2 0 (i2l_ c4) fun M =>
  some (0, M)
def k_L_growth (a0 : Nat) (v1 : Int) (a2 : Nat) (M : mm_T) : Option (Int × mm_T) :=
  ob_ M a0 10 <| cx_ (k_X_growth a0 v1 M) (fun E M =>
    if E = 1 then (
      some (1, M)
    ) else
    none) fun c4 M =>
  sJ_ M a2 0 (i2l_ c4) fun M =>
  some (0, M)
def k_L_image (a0 : Nat) (v1 : Int) (a2 : Nat) (M : mm_T) : Option (Int × mm_T) :=
  ob_ M a0 10 <| cx_ (k_X_image a0 v1 M) (fun E M =>
    if E = 3 then (
      some (1, M)
    ) else
    if E = 2 then (
      some (2, M)
    ) else
    none) fun c4 M =>
  sJ_ M a2 0 (i2l_ c4) fun M =>
  some (0, M)
def k_L_imaged (a0 : Nat) (v1 : Int) (v2 : Int) (v3 : Int) (a4 : Nat) (M : mm_T) : Option (Int × mm_T) :=
  ob_ M a0 10 <| cx_ (k_X_imaged a0 v1 v2 v3 M) (fun E M =>
    if E = 3 then (
      some (1, M)
    ) else
    if E = 1 then (
      some (2, M)
    ) else
    none) fun c7 M =>
  sJ_ M a4 0 (i2l_ c7) fun M =>
  some (0, M)
def k_L_length (a0 : Nat) (v1 : Int) (v2 : Int) (v3 : Int) (a4 : Nat) (M : mm_T) : Option (Int × mm_T) :=
  ob_ M a0 10 <| cx_ (k_X_length a0 v1 v2 v3 M) (fun E M =>
    if E = 3 then (
      some (1, M)
    ) else
    if E = 1 then (
      some (2, M)
    ) else
    none) fun c7 M =>
  sJ_ M a4 0 c7 fun M =>
  some (0, M)
def k_L_power (a0 : Nat) (v1 : Int) (v2 : Int) (v3 : Int) (w4 : Int64) (a6 : Nat) (M : mm_T) : Option (Int × mm_T) :=
  ob_ M a0 10 <| cx_ (k_X_power a0 v1 v2 v3 w4 M) (fun E M =>
    if E = 3 then (
      some (1, M)
    ) else
    if E = 1 then (
      some (2, M)
    ) else
    none) fun c9 M =>
  sJ_ M a6 0 (i2l_ c9) fun M =>
  some (0, M)
def k_L_often (a0 : Nat) (v1 : Int) (v2 : Int) (v3 : Int) (v4 : Int) (a5 : Nat) (M : mm_T) : Option (Int × mm_T) :=
  ob_ M a0 10 <| cx_ (k_X_often a0 v1 v2 v3 v4 M) (fun E M =>
    if E = 3 then (
      some (1, M)
    ) else
    if E = 1 then (
      some (2, M)
    ) else
    none) fun c9 M =>
  sJ_ M a5 0 c9 fun M =>
  some (0, M)
def k_L_keeps (a0 : Nat) (v1 : Int) (v2 : Int) (a3 : Nat) (M : mm_T) : Option (Int × mm_T) :=
  ob_ M a0 10 <| cx_ (k_X_keeps a0 v1 v2 M) (fun E M =>
    if E = 3 then (
      some (1, M)
    ) else
    if E = 1 then (
      some (2, M)
    ) else
    none) fun c5 M =>
  sJ_ M a3 0 (i2l_ c5) fun M =>
  some (0, M)
def k_L_breaks (a0 : Nat) (v1 : Int) (v2 : Int) (a3 : Nat) (M : mm_T) : Option (Int × mm_T) :=
  ob_ M a0 10 <| cx_ (k_X_breaks a0 v1 v2 M) (fun E M =>
    if E = 3 then (
      some (1, M)
    ) else
    if E = 1 then (
      some (2, M)
    ) else
    none) fun c5 M =>
  sJ_ M a3 0 (i2l_ c5) fun M =>
  some (0, M)
def k_L_grows (a0 : Nat) (v1 : Int) (a2 : Nat) (M : mm_T) : Option (Int × mm_T) :=
  ob_ M a0 10 <| cx_ (k_X_grows a0 v1 M) (fun E M =>
    if E = 3 then (
      some (1, M)
    ) else
    none) fun c4 M =>
  sJ_ M a2 0 (i2l_ c4) fun M =>
  some (0, M)
def k_L_uniform (a0 : Nat) (v1 : Int) (a2 : Nat) (M : mm_T) : Option (Int × mm_T) :=
  ob_ M a0 10 <| cx_ (k_X_uniform a0 v1 M) (fun E M =>
    if E = 3 then (
      some (1, M)
    ) else
    none) fun c4 M =>
  sJ_ M a2 0 (i2l_ c4) fun M =>
  some (0, M)
def k_L_cannot (a0 : Nat) (v1 : Int) (a2 : Nat) (M : mm_T) : Option (Int × mm_T) :=
  ob_ M a0 10 <| cx_ (k_X_cannot a0 v1 M) (fun E M =>
    if E = 3 then (
      some (1, M)
    ) else
    none) fun c4 M =>
  jn_ (fun (sa0_15 : Nat) (s1_15 : Int) (sw2_15 : Int64) (M : mm_T) =>
    sJ_ M sa0_15 s1_15 sw2_15 fun M =>
    some (0, M)
  ) fun j15 =>
  if c4 = 0 then (
    j15 a2 0 0 M
  ) else (
    j15 a2 0 1 M
  )
def k_L_loose (a0 : Nat) (v1 : Int) (v2 : Int) (a3 : Nat) (M : mm_T) : Option (Int × mm_T) :=
  ob_ M a0 10 <| cx_ (k_X_loose a0 v1 v2 M) (fun E M =>
    if E = 3 then (
      some (1, M)
    ) else
    none) fun c5 M =>
  sJ_ M a3 0 (i2l_ c5) fun M =>
  some (0, M)
def k_L_pattern (a0 : Nat) (v1 : Int) (v2 : Int) (a3 : Nat) (M : mm_T) : Option (Int × mm_T) :=
  ob_ M a0 10 <| cx_ (k_X_pattern a0 v1 v2 M) (fun E M =>
    if E = 3 then (
      some (1, M)
    ) else
    if E = 4 then (
      some (2, M)
    ) else
    none) fun c5 M =>
  sJ_ M a3 0 (i2l_ c5) fun M =>
  some (0, M)
def k_L_stuck (a0 : Nat) (v1 : Int) (a2 : Nat) (M : mm_T) : Option (Int × mm_T) :=
  ob_ M a0 10 <| cx_ (k_X_stuck a0 v1 M) (fun E M =>
    if E = 1 then (
      some (1, M)
    ) else
    none) fun c4 M =>
  sJ_ M a2 0 (i2l_ c4) fun M =>
  some (0, M)
def k_L_rank (a0 : Nat) (a1 : Nat) (M : mm_T) : Option (Int × mm_T) :=
  ob_ M a0 10 <| cx_ (k_X_rank a0 M) (fun E M =>
    if E = 2 then (
      some (1, M)
    ) else
    none) fun c3 M =>
  sJ_ M a1 0 (i2l_ c3) fun M =>
  some (0, M)
def k_L_nth (a0 : Nat) (v1 : Int) (v2 : Int) (a3 : Nat) (M : mm_T) : Option (Int × mm_T) :=
  ob_ M a0 10 <| cx_ (k_X_nth a0 v1 v2 M) (fun E M =>
    if E = 1 then (
      some (1, M)
    ) else
    none) fun c5 M =>
  sJ_ M a3 0 (i2l_ c5) fun M =>
  some (0, M)
def k_L_limit (a0 : Nat) (v1 : Int) (v2 : Int) (v3 : Int) (a4 : Nat) (M : mm_T) : Option (Int × mm_T) :=
  ob_ M a0 10 <| cx_ (k_X_limit a0 v1 v2 v3 M) (fun E M =>
    if E = 1 then (
      some (1, M)
    ) else
    none) fun c7 M =>
  sJ_ M a4 0 (i2l_ c7) fun M =>
  some (0, M)
def k_L_avoid (a0 : Nat) (v1 : Int) (v2 : Int) (a3 : Nat) (M : mm_T) : Option (Int × mm_T) :=
  ob_ M a0 10 <| cx_ (k_X_avoid a0 v1 v2 M) (fun E M =>
    if E = 3 then (
      some (1, M)
    ) else
    none) fun c5 M =>
  jn_ (fun (sa0_16 : Nat) (s1_16 : Int) (sw2_16 : Int64) (M : mm_T) =>
    sJ_ M sa0_16 s1_16 sw2_16 fun M =>
    some (0, M)
  ) fun j16 =>
  if c5 = 0 then (
    j16 a3 0 0 M
  ) else (
    j16 a3 0 1 M
  )
def k_L_local (a0 : Nat) (v1 : Int) (a2 : Nat) (M : mm_T) : Option (Int × mm_T) :=
  ob_ M a0 10 <| cx_ (k_X_local a0 v1 M) (fun E M =>
    if E = 1 then (
      some (1, M)
    ) else
    none) fun c4 M =>
  sJ_ M a2 0 (i2l_ c4) fun M =>
  some (0, M)
def k_L_fill (a0 : Nat) (v1 : Int) (v2 : Int) (v3 : Int) (a4 : Nat) (M : mm_T) : Option (Int × mm_T) :=
  ob_ M a0 10 <| cx_ (k_X_fill a0 v1 v2 v3 M) (fun E M =>
    if E = 3 then (
      some (1, M)
    ) else
    if E = 1 then (
      some (2, M)
    ) else
    if E = 2 then (
      some (3, M)
    ) else
    none) fun c7 M =>
  sJ_ M a4 0 (i2l_ c7) fun M =>
  some (0, M)
def k_L_sources (a0 : Nat) (v1 : Int) (a2 : Nat) (M : mm_T) : Option (Int × mm_T) :=
  ob_ M a0 10 <| cx_ (k_X_sources a0 v1 M) (fun E M =>
    if E = 3 then (
      some (1, M)
    ) else
    none) fun c4 M =>
  sJ_ M a2 0 c4 fun M =>
  some (0, M)
def k_L_code (a0 : Nat) (v1 : Int) (a2 : Nat) (M : mm_T) : Option (Int × mm_T) :=
  ob_ M a0 10 <| cx_ (k_X_code a0 v1 M) (fun E M =>
    if E = 3 then (
      some (1, M)
    ) else
    none) fun c4 M =>
  jn_ (fun (sa0_15 : Nat) (s1_15 : Int) (sw2_15 : Int64) (M : mm_T) =>
    sJ_ M sa0_15 s1_15 sw2_15 fun M =>
    some (0, M)
  ) fun j15 =>
  if c4 = 0 then (
    j15 a2 0 0 M
  ) else (
    j15 a2 0 1 M
  )
def k_L_whole (a0 : Nat) (v1 : Int) (v2 : Int) (v3 : Int) (a4 : Nat) (M : mm_T) : Option (Int × mm_T) :=
  ob_ M a0 10 <| cx_ (k_X_whole a0 v1 v2 v3 M) (fun E M =>
    if E = 3 then (
      some (1, M)
    ) else
    if E = 4 then (
      some (2, M)
    ) else
    none) fun c7 M =>
  sJ_ M a4 0 (i2l_ c7) fun M =>
  some (0, M)
def lp_L_law_23 (kx2805 : mm_T → Option (Int × mm_T)) (sL : Nat) (sX : Nat → Int) (a1 : Nat) (a2 : Nat) (a3 : Nat) : Nat → Int → mm_T → Option (Int × mm_T)
  | 0, _, _ => none
  | f + 1, v4, M =>
    sn_ sL fun x26 =>
    ck_ (x26 - 6) fun x29 =>
    if x29 < v4 then (
      kx2805 M
    ) else (
      sl_ sL sX v4 fun x36 =>
      jn_ (fun (M : mm_T) =>
        ck_ (v4 + 6) fun v4_2799 =>
        lp_L_law_23 kx2805 sL sX a1 a2 a3 f v4_2799 M
      ) fun j2799 =>
      sw_ (and_ x36 63) 0 51 (
        j2799 M
      ) fun i => match i with
        | 0 =>
          ck_ (v4 + 1) fun x265 =>
          sl_ sL sX x265 fun x266 =>
          ck_ (v4 + 2) fun x271 =>
          sl_ sL sX x271 fun x272 =>
          ck_ (v4 + 3) fun x277 =>
          sl_ sL sX x277 fun x278 =>
          ck_ (v4 + 4) fun x283 =>
          sl_ sL sX x283 fun x284 =>
          ck_ (v4 + 5) fun x289 =>
          sl_ sL sX x289 fun x290 =>
          ob_ M a1 10 <| cl_ (k_X_feed a1 x266 x272 x278 x284 x290 M) fun c291 M =>
          ck_ (v4 + 1) fun x299 =>
          sl_ sL sX x299 fun x300 =>
          ck_ (v4 + 2) fun x305 =>
          sl_ sL sX x305 fun x306 =>
          ck_ (v4 + 3) fun x311 =>
          sl_ sL sX x311 fun x312 =>
          ck_ (v4 + 4) fun x317 =>
          sl_ sL sX x317 fun x318 =>
          ck_ (v4 + 5) fun x323 =>
          sl_ sL sX x323 fun x324 =>
          ob_ M a2 11 <| cl_ (k_M_feed a2 x300 x306 x312 x318 x324 M) fun c325 M =>
          if c291 = c325 then (
            j2799 M
          ) else (
            zz_ 0 (some (0, M))
          )
        | 1 =>
          ck_ (v4 + 1) fun x338 =>
          sl_ sL sX x338 fun x339 =>
          ob_ M a1 10 <| cl_ (k_X_end a1 x339 M) fun c340 M =>
          ck_ (v4 + 1) fun x348 =>
          sl_ sL sX x348 fun x349 =>
          ob_ M a2 11 <| cl_ (k_M_end a2 x349 M) fun c350 M =>
          if c340 = c350 then (
            j2799 M
          ) else (
            zz_ 0 (some (0, M))
          )
        | 2 =>
          cl_ (k_L_read a1 a3 M) fun c360 M =>
          lt_ c360 fun v5_363 =>
          ob_ M a2 11 <| cl_ (k_M_read a2 M) fun c366 M =>
          lt_ c366 fun v6_369 =>
          ob_ M a2 11 <| cl_ (k_M_thrown a2 M) fun c372 M =>
          if c372 = v5_363 then (
            jn_ (fun (M : mm_T) =>
              j2799 M
            ) fun j399 =>
            if ¬ v5_363 = 0 then (
              j399 M
            ) else (
              aJ_ M a3 0 fun x389 =>
              if lcm_ x389 (i2l_ v6_369) = 0 then (
                j399 M
              ) else (
                zz_ 0 (some (0, M))
              )
            )
          ) else (
            zz_ 0 (some (0, M))
          )
        | 3 =>
          cl_ (k_L_word a1 a3 M) fun c404 M =>
          lt_ c404 fun v5_407 =>
          ob_ M a2 11 <| cl_ (k_M_word a2 M) fun c410 M =>
          lt_ c410 fun v6_413 =>
          ob_ M a2 11 <| cl_ (k_M_thrown a2 M) fun c416 M =>
          if c416 = v5_407 then (
            jn_ (fun (M : mm_T) =>
              j2799 M
            ) fun j443 =>
            if ¬ v5_407 = 0 then (
              j443 M
            ) else (
              aJ_ M a3 0 fun x433 =>
              if lcm_ x433 (i2l_ v6_413) = 0 then (
                j443 M
              ) else (
                zz_ 0 (some (0, M))
              )
            )
          ) else (
            zz_ 0 (some (0, M))
          )
        | 4 =>
          ob_ M a1 10 <| cl_ (k_X_fault a1 M) fun c447 M =>
          ob_ M a2 11 <| cl_ (k_M_fault a2 M) fun c451 M =>
          if c447 = c451 then (
            j2799 M
          ) else (
            zz_ 0 (some (0, M))
          )
        | 5 =>
          ck_ (v4 + 1) fun x464 =>
          sl_ sL sX x464 fun x465 =>
          ob_ M a1 10 <| cl_ (k_X_letter a1 x465 M) fun c466 M =>
          ck_ (v4 + 1) fun x474 =>
          sl_ sL sX x474 fun x475 =>
          ob_ M a2 11 <| cl_ (k_M_letter a2 x475 M) fun c476 M =>
          if c466 = c476 then (
            j2799 M
          ) else (
            zz_ 0 (some (0, M))
          )
        | 6 =>
          ck_ (v4 + 1) fun x489 =>
          sl_ sL sX x489 fun x490 =>
          cl_ (k_L_push a1 x490 a3 M) fun c492 M =>
          lt_ c492 fun v5_495 =>
          ck_ (v4 + 1) fun x502 =>
          sl_ sL sX x502 fun x503 =>
          ob_ M a2 11 <| cl_ (k_M_push a2 x503 M) fun c504 M =>
          lt_ c504 fun v6_507 =>
          ob_ M a2 11 <| cl_ (k_M_thrown a2 M) fun c510 M =>
          if c510 = v5_495 then (
            jn_ (fun (M : mm_T) =>
              j2799 M
            ) fun j537 =>
            if ¬ v5_495 = 0 then (
              j537 M
            ) else (
              aJ_ M a3 0 fun x527 =>
              if lcm_ x527 (i2l_ v6_507) = 0 then (
                j537 M
              ) else (
                zz_ 0 (some (0, M))
              )
            )
          ) else (
            zz_ 0 (some (0, M))
          )
        | 7 =>
          cl_ (k_L_pop a1 a3 M) fun c542 M =>
          lt_ c542 fun v5_545 =>
          ob_ M a2 11 <| cl_ (k_M_pop a2 M) fun c548 M =>
          lt_ c548 fun v6_551 =>
          ob_ M a2 11 <| cl_ (k_M_thrown a2 M) fun c554 M =>
          if c554 = v5_545 then (
            jn_ (fun (M : mm_T) =>
              j2799 M
            ) fun j581 =>
            if ¬ v5_545 = 0 then (
              j581 M
            ) else (
              aJ_ M a3 0 fun x571 =>
              if lcm_ x571 (i2l_ v6_551) = 0 then (
                j581 M
              ) else (
                zz_ 0 (some (0, M))
              )
            )
          ) else (
            zz_ 0 (some (0, M))
          )
        | 8 =>
          ob_ M a1 10 <| cl_ (k_X_undo a1 M) fun c585 M =>
          ob_ M a2 11 <| cl_ (k_M_undo a2 M) fun c589 M =>
          if c585 = c589 then (
            j2799 M
          ) else (
            zz_ 0 (some (0, M))
          )
        | 9 =>
          ob_ M a1 10 <| cl_ (k_X_free a1 M) fun c598 M =>
          ob_ M a2 11 <| cl_ (k_M_free a2 M) fun c602 M =>
          if c598 = c602 then (
            j2799 M
          ) else (
            zz_ 0 (some (0, M))
          )
        | 10 =>
          ob_ M a1 10 <| cl_ (k_X_ends a1 M) fun c611 M =>
          ob_ M a2 11 <| cl_ (k_M_ends a2 M) fun c615 M =>
          if c611 = c615 then (
            j2799 M
          ) else (
            zz_ 0 (some (0, M))
          )
        | 11 =>
          ck_ (v4 + 1) fun x628 =>
          sl_ sL sX x628 fun x629 =>
          cl_ (k_L_greatest a1 x629 a3 M) fun c631 M =>
          lt_ c631 fun v5_634 =>
          ck_ (v4 + 1) fun x641 =>
          sl_ sL sX x641 fun x642 =>
          ob_ M a2 11 <| cl_ (k_M_greatest a2 x642 M) fun c643 M =>
          lt_ c643 fun v6_646 =>
          ob_ M a2 11 <| cl_ (k_M_thrown a2 M) fun c649 M =>
          if c649 = v5_634 then (
            jn_ (fun (M : mm_T) =>
              j2799 M
            ) fun j676 =>
            if ¬ v5_634 = 0 then (
              j676 M
            ) else (
              aJ_ M a3 0 fun x666 =>
              if lcm_ x666 (i2l_ v6_646) = 0 then (
                j676 M
              ) else (
                zz_ 0 (some (0, M))
              )
            )
          ) else (
            zz_ 0 (some (0, M))
          )
        | 12 =>
          ob_ M a1 10 <| cl_ (k_X_period a1 M) fun c680 M =>
          ob_ M a2 11 <| cl_ (k_M_period a2 M) fun c684 M =>
          if c680 = c684 then (
            j2799 M
          ) else (
            zz_ 0 (some (0, M))
          )
        | 13 =>
          ck_ (v4 + 1) fun x697 =>
          sl_ sL sX x697 fun x698 =>
          ob_ M a1 10 <| cl_ (k_X_border a1 x698 M) fun c699 M =>
          ck_ (v4 + 1) fun x707 =>
          sl_ sL sX x707 fun x708 =>
          ob_ M a2 11 <| cl_ (k_M_border a2 x708 M) fun c709 M =>
          if c699 = c709 then (
            j2799 M
          ) else (
            zz_ 0 (some (0, M))
          )
        | 14 =>
          ck_ (v4 + 1) fun x722 =>
          sl_ sL sX x722 fun x723 =>
          ck_ (v4 + 2) fun x728 =>
          sl_ sL sX x728 fun x729 =>
          cl_ (k_L_run a1 x723 x729 a3 M) fun c731 M =>
          lt_ c731 fun v5_734 =>
          ck_ (v4 + 1) fun x741 =>
          sl_ sL sX x741 fun x742 =>
          ck_ (v4 + 2) fun x747 =>
          sl_ sL sX x747 fun x748 =>
          ob_ M a2 11 <| cl_ (k_M_run a2 x742 x748 M) fun c749 M =>
          lt_ c749 fun v6_752 =>
          ob_ M a2 11 <| cl_ (k_M_thrown a2 M) fun c755 M =>
          if c755 = v5_734 then (
            jn_ (fun (M : mm_T) =>
              j2799 M
            ) fun j782 =>
            if ¬ v5_734 = 0 then (
              j782 M
            ) else (
              aJ_ M a3 0 fun x772 =>
              if lcm_ x772 (i2l_ v6_752) = 0 then (
                j782 M
              ) else (
                zz_ 0 (some (0, M))
              )
            )
          ) else (
            zz_ 0 (some (0, M))
          )
        | 15 =>
          ck_ (v4 + 1) fun x790 =>
          sl_ sL sX x790 fun x791 =>
          cl_ (k_L_factors a1 x791 a3 M) fun c793 M =>
          lt_ c793 fun v5_796 =>
          ck_ (v4 + 1) fun x803 =>
          sl_ sL sX x803 fun x804 =>
          ob_ M a2 11 <| cl_ (k_M_factors a2 x804 M) fun c805 M =>
          lt_ c805 fun v6_808 =>
          ob_ M a2 11 <| cl_ (k_M_thrown a2 M) fun c811 M =>
          if c811 = v5_796 then (
            jn_ (fun (M : mm_T) =>
              j2799 M
            ) fun j838 =>
            if ¬ v5_796 = 0 then (
              j838 M
            ) else (
              aJ_ M a3 0 fun x828 =>
              if lcm_ x828 (i2l_ v6_808) = 0 then (
                j838 M
              ) else (
                zz_ 0 (some (0, M))
              )
            )
          ) else (
            zz_ 0 (some (0, M))
          )
        | 16 =>
          ob_ M a1 10 <| cl_ (k_X_mirror a1 M) fun c842 M =>
          ob_ M a2 11 <| cl_ (k_M_mirror a2 M) fun c846 M =>
          if c842 = c846 then (
            j2799 M
          ) else (
            zz_ 0 (some (0, M))
          )
        | 17 =>
          ck_ (v4 + 1) fun x859 =>
          sl_ sL sX x859 fun x860 =>
          ck_ (v4 + 2) fun x865 =>
          sl_ sL sX x865 fun x866 =>
          cl_ (k_L_met a1 x860 x866 a3 M) fun c868 M =>
          lt_ c868 fun v5_871 =>
          ck_ (v4 + 1) fun x878 =>
          sl_ sL sX x878 fun x879 =>
          ck_ (v4 + 2) fun x884 =>
          sl_ sL sX x884 fun x885 =>
          ob_ M a2 11 <| cl_ (k_M_met a2 x879 x885 M) fun c886 M =>
          lt_ c886 fun v6_889 =>
          ob_ M a2 11 <| cl_ (k_M_thrown a2 M) fun c892 M =>
          if c892 = v5_871 then (
            jn_ (fun (M : mm_T) =>
              j2799 M
            ) fun j919 =>
            if ¬ v5_871 = 0 then (
              j919 M
            ) else (
              aJ_ M a3 0 fun x909 =>
              if lcm_ x909 (i2l_ v6_889) = 0 then (
                j919 M
              ) else (
                zz_ 0 (some (0, M))
              )
            )
          ) else (
            zz_ 0 (some (0, M))
          )
        | 18 =>
          ob_ M a1 10 <| cl_ (k_X_goes a1 M) fun c923 M =>
          ob_ M a2 11 <| cl_ (k_M_goes a2 M) fun c927 M =>
          if c923 = c927 then (
            j2799 M
          ) else (
            zz_ 0 (some (0, M))
          )
        | 19 =>
          ob_ M a1 10 <| cl_ (k_X_further a1 M) fun c936 M =>
          ob_ M a2 11 <| cl_ (k_M_further a2 M) fun c940 M =>
          if c936 = c940 then (
            j2799 M
          ) else (
            zz_ 0 (some (0, M))
          )
        | 20 =>
          ck_ (v4 + 1) fun x953 =>
          sl_ sL sX x953 fun x954 =>
          cl_ (k_L_first a1 x954 a3 M) fun c956 M =>
          lt_ c956 fun v5_959 =>
          ck_ (v4 + 1) fun x966 =>
          sl_ sL sX x966 fun x967 =>
          ob_ M a2 11 <| cl_ (k_M_first a2 x967 M) fun c968 M =>
          lt_ c968 fun v6_971 =>
          ob_ M a2 11 <| cl_ (k_M_thrown a2 M) fun c974 M =>
          if c974 = v5_959 then (
            jn_ (fun (M : mm_T) =>
              j2799 M
            ) fun j1001 =>
            if ¬ v5_959 = 0 then (
              j1001 M
            ) else (
              aJ_ M a3 0 fun x991 =>
              if lcm_ x991 (i2l_ v6_971) = 0 then (
                j1001 M
              ) else (
                zz_ 0 (some (0, M))
              )
            )
          ) else (
            zz_ 0 (some (0, M))
          )
        | 21 =>
          cl_ (k_L_next a1 a3 M) fun c1006 M =>
          lt_ c1006 fun v5_1009 =>
          ob_ M a2 11 <| cl_ (k_M_next a2 M) fun c1012 M =>
          lt_ c1012 fun v6_1015 =>
          ob_ M a2 11 <| cl_ (k_M_thrown a2 M) fun c1018 M =>
          if c1018 = v5_1009 then (
            jn_ (fun (M : mm_T) =>
              j2799 M
            ) fun j1045 =>
            if ¬ v5_1009 = 0 then (
              j1045 M
            ) else (
              aJ_ M a3 0 fun x1035 =>
              if lcm_ x1035 (i2l_ v6_1015) = 0 then (
                j1045 M
              ) else (
                zz_ 0 (some (0, M))
              )
            )
          ) else (
            zz_ 0 (some (0, M))
          )
        | 22 =>
          ck_ (v4 + 1) fun x1053 =>
          sl_ sL sX x1053 fun x1054 =>
          cl_ (k_L_many a1 x1054 a3 M) fun c1056 M =>
          lt_ c1056 fun v5_1059 =>
          ck_ (v4 + 1) fun x1066 =>
          sl_ sL sX x1066 fun x1067 =>
          ob_ M a2 11 <| cl_ (k_M_many a2 x1067 M) fun c1068 M =>
          lt_ c1068 fun v6_1071 =>
          ob_ M a2 11 <| cl_ (k_M_thrown a2 M) fun c1074 M =>
          if c1074 = v5_1059 then (
            jn_ (fun (M : mm_T) =>
              j2799 M
            ) fun j1101 =>
            if ¬ v5_1059 = 0 then (
              j1101 M
            ) else (
              aJ_ M a3 0 fun x1091 =>
              if lcm_ x1091 (i2l_ v6_1071) = 0 then (
                j1101 M
              ) else (
                zz_ 0 (some (0, M))
              )
            )
          ) else (
            zz_ 0 (some (0, M))
          )
        | 23 =>
          ob_ M a1 10 <| cl_ (k_X_longest a1 M) fun c1105 M =>
          ob_ M a2 11 <| cl_ (k_M_longest a2 M) fun c1109 M =>
          if c1105 = c1109 then (
            j2799 M
          ) else (
            zz_ 0 (some (0, M))
          )
        | 24 =>
          ck_ (v4 + 1) fun x1122 =>
          sl_ sL sX x1122 fun x1123 =>
          cl_ (k_L_growth a1 x1123 a3 M) fun c1125 M =>
          lt_ c1125 fun v5_1128 =>
          ck_ (v4 + 1) fun x1135 =>
          sl_ sL sX x1135 fun x1136 =>
          ob_ M a2 11 <| cl_ (k_M_growth a2 x1136 M) fun c1137 M =>
          lt_ c1137 fun v6_1140 =>
          ob_ M a2 11 <| cl_ (k_M_thrown a2 M) fun c1143 M =>
          if c1143 = v5_1128 then (
            jn_ (fun (M : mm_T) =>
              j2799 M
            ) fun j1170 =>
            if ¬ v5_1128 = 0 then (
              j1170 M
            ) else (
              aJ_ M a3 0 fun x1160 =>
              if lcm_ x1160 (i2l_ v6_1140) = 0 then (
                j1170 M
              ) else (
                zz_ 0 (some (0, M))
              )
            )
          ) else (
            zz_ 0 (some (0, M))
          )
        | 25 =>
          ck_ (v4 + 1) fun x1178 =>
          sl_ sL sX x1178 fun x1179 =>
          cl_ (k_L_image a1 x1179 a3 M) fun c1181 M =>
          lt_ c1181 fun v5_1184 =>
          ck_ (v4 + 1) fun x1191 =>
          sl_ sL sX x1191 fun x1192 =>
          ob_ M a2 11 <| cl_ (k_M_image a2 x1192 M) fun c1193 M =>
          lt_ c1193 fun v6_1196 =>
          ob_ M a2 11 <| cl_ (k_M_thrown a2 M) fun c1199 M =>
          if c1199 = v5_1184 then (
            jn_ (fun (M : mm_T) =>
              j2799 M
            ) fun j1226 =>
            if ¬ v5_1184 = 0 then (
              j1226 M
            ) else (
              aJ_ M a3 0 fun x1216 =>
              if lcm_ x1216 (i2l_ v6_1196) = 0 then (
                j1226 M
              ) else (
                zz_ 0 (some (0, M))
              )
            )
          ) else (
            zz_ 0 (some (0, M))
          )
        | 26 =>
          ck_ (v4 + 1) fun x1234 =>
          sl_ sL sX x1234 fun x1235 =>
          ck_ (v4 + 2) fun x1240 =>
          sl_ sL sX x1240 fun x1241 =>
          ck_ (v4 + 3) fun x1246 =>
          sl_ sL sX x1246 fun x1247 =>
          cl_ (k_L_imaged a1 x1235 x1241 x1247 a3 M) fun c1249 M =>
          lt_ c1249 fun v5_1252 =>
          ck_ (v4 + 1) fun x1259 =>
          sl_ sL sX x1259 fun x1260 =>
          ck_ (v4 + 2) fun x1265 =>
          sl_ sL sX x1265 fun x1266 =>
          ck_ (v4 + 3) fun x1271 =>
          sl_ sL sX x1271 fun x1272 =>
          ob_ M a2 11 <| cl_ (k_M_imaged a2 x1260 x1266 x1272 M) fun c1273 M =>
          lt_ c1273 fun v6_1276 =>
          ob_ M a2 11 <| cl_ (k_M_thrown a2 M) fun c1279 M =>
          if c1279 = v5_1252 then (
            jn_ (fun (M : mm_T) =>
              j2799 M
            ) fun j1306 =>
            if ¬ v5_1252 = 0 then (
              j1306 M
            ) else (
              aJ_ M a3 0 fun x1296 =>
              if lcm_ x1296 (i2l_ v6_1276) = 0 then (
                j1306 M
              ) else (
                zz_ 0 (some (0, M))
              )
            )
          ) else (
            zz_ 0 (some (0, M))
          )
        | 27 =>
          ck_ (v4 + 1) fun x1314 =>
          sl_ sL sX x1314 fun x1315 =>
          ck_ (v4 + 2) fun x1320 =>
          sl_ sL sX x1320 fun x1321 =>
          ck_ (v4 + 3) fun x1326 =>
          sl_ sL sX x1326 fun x1327 =>
          cl_ (k_L_length a1 x1315 x1321 x1327 a3 M) fun c1329 M =>
          lt_ c1329 fun v5_1332 =>
          ck_ (v4 + 1) fun x1339 =>
          sl_ sL sX x1339 fun x1340 =>
          ck_ (v4 + 2) fun x1345 =>
          sl_ sL sX x1345 fun x1346 =>
          ck_ (v4 + 3) fun x1351 =>
          sl_ sL sX x1351 fun x1352 =>
          ob_ M a2 11 <| cl_ (k_M_length a2 x1340 x1346 x1352 M) fun c1353 M =>
          lt_ c1353 fun w6_1356 =>
          ob_ M a2 11 <| cl_ (k_M_thrown a2 M) fun c1359 M =>
          if c1359 = v5_1332 then (
            jn_ (fun (M : mm_T) =>
              j2799 M
            ) fun j1385 =>
            if ¬ v5_1332 = 0 then (
              j1385 M
            ) else (
              aJ_ M a3 0 fun x1376 =>
              if lcm_ x1376 w6_1356 = 0 then (
                j1385 M
              ) else (
                zz_ 0 (some (0, M))
              )
            )
          ) else (
            zz_ 0 (some (0, M))
          )
        | 28 =>
          ck_ (v4 + 1) fun x1393 =>
          sl_ sL sX x1393 fun x1394 =>
          ck_ (v4 + 2) fun x1399 =>
          sl_ sL sX x1399 fun x1400 =>
          ck_ (v4 + 3) fun x1405 =>
          sl_ sL sX x1405 fun x1406 =>
          ck_ (v4 + 4) fun x1411 =>
          sl_ sL sX x1411 fun x1412 =>
          ck_ (v4 + 5) fun x1421 =>
          sl_ sL sX x1421 fun x1422 =>
          cl_ (k_L_power a1 x1394 x1400 x1406 ((lshl_ (i2l_ x1412) 32) ||| ((i2l_ x1422) &&& 4294967295)) a3 M) fun c1430 M =>
          lt_ c1430 fun v5_1433 =>
          ck_ (v4 + 1) fun x1440 =>
          sl_ sL sX x1440 fun x1441 =>
          ck_ (v4 + 2) fun x1446 =>
          sl_ sL sX x1446 fun x1447 =>
          ck_ (v4 + 3) fun x1452 =>
          sl_ sL sX x1452 fun x1453 =>
          ck_ (v4 + 4) fun x1458 =>
          sl_ sL sX x1458 fun x1459 =>
          ck_ (v4 + 5) fun x1468 =>
          sl_ sL sX x1468 fun x1469 =>
          ob_ M a2 11 <| cl_ (k_M_power a2 x1441 x1447 x1453 ((lshl_ (i2l_ x1459) 32) ||| ((i2l_ x1469) &&& 4294967295)) M) fun c1476 M =>
          lt_ c1476 fun v6_1479 =>
          ob_ M a2 11 <| cl_ (k_M_thrown a2 M) fun c1482 M =>
          if c1482 = v5_1433 then (
            jn_ (fun (M : mm_T) =>
              j2799 M
            ) fun j1509 =>
            if ¬ v5_1433 = 0 then (
              j1509 M
            ) else (
              aJ_ M a3 0 fun x1499 =>
              if lcm_ x1499 (i2l_ v6_1479) = 0 then (
                j1509 M
              ) else (
                zz_ 0 (some (0, M))
              )
            )
          ) else (
            zz_ 0 (some (0, M))
          )
        | 29 =>
          ck_ (v4 + 1) fun x1517 =>
          sl_ sL sX x1517 fun x1518 =>
          ck_ (v4 + 2) fun x1523 =>
          sl_ sL sX x1523 fun x1524 =>
          ck_ (v4 + 3) fun x1529 =>
          sl_ sL sX x1529 fun x1530 =>
          ck_ (v4 + 4) fun x1535 =>
          sl_ sL sX x1535 fun x1536 =>
          cl_ (k_L_often a1 x1518 x1524 x1530 x1536 a3 M) fun c1538 M =>
          lt_ c1538 fun v5_1541 =>
          ck_ (v4 + 1) fun x1548 =>
          sl_ sL sX x1548 fun x1549 =>
          ck_ (v4 + 2) fun x1554 =>
          sl_ sL sX x1554 fun x1555 =>
          ck_ (v4 + 3) fun x1560 =>
          sl_ sL sX x1560 fun x1561 =>
          ck_ (v4 + 4) fun x1566 =>
          sl_ sL sX x1566 fun x1567 =>
          ob_ M a2 11 <| cl_ (k_M_often a2 x1549 x1555 x1561 x1567 M) fun c1568 M =>
          lt_ c1568 fun w6_1571 =>
          ob_ M a2 11 <| cl_ (k_M_thrown a2 M) fun c1574 M =>
          if c1574 = v5_1541 then (
            jn_ (fun (M : mm_T) =>
              j2799 M
            ) fun j1600 =>
            if ¬ v5_1541 = 0 then (
              j1600 M
            ) else (
              aJ_ M a3 0 fun x1591 =>
              if lcm_ x1591 w6_1571 = 0 then (
                j1600 M
              ) else (
                zz_ 0 (some (0, M))
              )
            )
          ) else (
            zz_ 0 (some (0, M))
          )
        | 30 =>
          ck_ (v4 + 1) fun x1608 =>
          sl_ sL sX x1608 fun x1609 =>
          ck_ (v4 + 2) fun x1614 =>
          sl_ sL sX x1614 fun x1615 =>
          cl_ (k_L_keeps a1 x1609 x1615 a3 M) fun c1617 M =>
          lt_ c1617 fun v5_1620 =>
          ck_ (v4 + 1) fun x1627 =>
          sl_ sL sX x1627 fun x1628 =>
          ck_ (v4 + 2) fun x1633 =>
          sl_ sL sX x1633 fun x1634 =>
          ob_ M a2 11 <| cl_ (k_M_keeps a2 x1628 x1634 M) fun c1635 M =>
          lt_ c1635 fun v6_1638 =>
          ob_ M a2 11 <| cl_ (k_M_thrown a2 M) fun c1641 M =>
          if c1641 = v5_1620 then (
            jn_ (fun (M : mm_T) =>
              j2799 M
            ) fun j1668 =>
            if ¬ v5_1620 = 0 then (
              j1668 M
            ) else (
              aJ_ M a3 0 fun x1658 =>
              if lcm_ x1658 (i2l_ v6_1638) = 0 then (
                j1668 M
              ) else (
                zz_ 0 (some (0, M))
              )
            )
          ) else (
            zz_ 0 (some (0, M))
          )
        | 31 =>
          ck_ (v4 + 1) fun x1676 =>
          sl_ sL sX x1676 fun x1677 =>
          ck_ (v4 + 2) fun x1682 =>
          sl_ sL sX x1682 fun x1683 =>
          cl_ (k_L_breaks a1 x1677 x1683 a3 M) fun c1685 M =>
          lt_ c1685 fun v5_1688 =>
          ck_ (v4 + 1) fun x1695 =>
          sl_ sL sX x1695 fun x1696 =>
          ck_ (v4 + 2) fun x1701 =>
          sl_ sL sX x1701 fun x1702 =>
          ob_ M a2 11 <| cl_ (k_M_breaks a2 x1696 x1702 M) fun c1703 M =>
          lt_ c1703 fun v6_1706 =>
          ob_ M a2 11 <| cl_ (k_M_thrown a2 M) fun c1709 M =>
          if c1709 = v5_1688 then (
            jn_ (fun (M : mm_T) =>
              j2799 M
            ) fun j1736 =>
            if ¬ v5_1688 = 0 then (
              j1736 M
            ) else (
              aJ_ M a3 0 fun x1726 =>
              if lcm_ x1726 (i2l_ v6_1706) = 0 then (
                j1736 M
              ) else (
                zz_ 0 (some (0, M))
              )
            )
          ) else (
            zz_ 0 (some (0, M))
          )
        | 32 =>
          ck_ (v4 + 1) fun x1744 =>
          sl_ sL sX x1744 fun x1745 =>
          cl_ (k_L_grows a1 x1745 a3 M) fun c1747 M =>
          lt_ c1747 fun v5_1750 =>
          ck_ (v4 + 1) fun x1757 =>
          sl_ sL sX x1757 fun x1758 =>
          ob_ M a2 11 <| cl_ (k_M_grows a2 x1758 M) fun c1759 M =>
          lt_ c1759 fun v6_1762 =>
          ob_ M a2 11 <| cl_ (k_M_thrown a2 M) fun c1765 M =>
          if c1765 = v5_1750 then (
            jn_ (fun (M : mm_T) =>
              j2799 M
            ) fun j1792 =>
            if ¬ v5_1750 = 0 then (
              j1792 M
            ) else (
              aJ_ M a3 0 fun x1782 =>
              if lcm_ x1782 (i2l_ v6_1762) = 0 then (
                j1792 M
              ) else (
                zz_ 0 (some (0, M))
              )
            )
          ) else (
            zz_ 0 (some (0, M))
          )
        | 33 =>
          ck_ (v4 + 1) fun x1800 =>
          sl_ sL sX x1800 fun x1801 =>
          cl_ (k_L_uniform a1 x1801 a3 M) fun c1803 M =>
          lt_ c1803 fun v5_1806 =>
          ck_ (v4 + 1) fun x1813 =>
          sl_ sL sX x1813 fun x1814 =>
          ob_ M a2 11 <| cl_ (k_M_uniform a2 x1814 M) fun c1815 M =>
          lt_ c1815 fun v6_1818 =>
          ob_ M a2 11 <| cl_ (k_M_thrown a2 M) fun c1821 M =>
          if c1821 = v5_1806 then (
            jn_ (fun (M : mm_T) =>
              j2799 M
            ) fun j1848 =>
            if ¬ v5_1806 = 0 then (
              j1848 M
            ) else (
              aJ_ M a3 0 fun x1838 =>
              if lcm_ x1838 (i2l_ v6_1818) = 0 then (
                j1848 M
              ) else (
                zz_ 0 (some (0, M))
              )
            )
          ) else (
            zz_ 0 (some (0, M))
          )
        | 34 =>
          ck_ (v4 + 1) fun x1856 =>
          sl_ sL sX x1856 fun x1857 =>
          cl_ (k_L_cannot a1 x1857 a3 M) fun c1859 M =>
          lt_ c1859 fun v5_1862 =>
          ck_ (v4 + 1) fun x1869 =>
          sl_ sL sX x1869 fun x1870 =>
          ob_ M a2 11 <| cl_ (k_M_cannot a2 x1870 M) fun c1871 M =>
          lt_ c1871 fun v6_1874 =>
          ob_ M a2 11 <| cl_ (k_M_thrown a2 M) fun c1877 M =>
          if c1877 = v5_1862 then (
            jn_ (fun (M : mm_T) =>
              j2799 M
            ) fun j1911 =>
            if ¬ v5_1862 = 0 then (
              j1911 M
            ) else (
              aJ_ M a3 0 fun x1894 =>
              jn_ (fun (sw0_1905 : Int64) (sw1_1905 : Int64) (M : mm_T) =>
                if lcm_ sw0_1905 sw1_1905 = 0 then (
                  j1911 M
                ) else (
                  zz_ 0 (some (0, M))
                )
              ) fun j1905 =>
              if v6_1874 = 0 then (
                j1905 x1894 0 M
              ) else (
                j1905 x1894 1 M
              )
            )
          ) else (
            zz_ 0 (some (0, M))
          )
        | 35 =>
          ck_ (v4 + 1) fun x1919 =>
          sl_ sL sX x1919 fun x1920 =>
          ck_ (v4 + 2) fun x1925 =>
          sl_ sL sX x1925 fun x1926 =>
          cl_ (k_L_loose a1 x1920 x1926 a3 M) fun c1928 M =>
          lt_ c1928 fun v5_1931 =>
          ck_ (v4 + 1) fun x1938 =>
          sl_ sL sX x1938 fun x1939 =>
          ck_ (v4 + 2) fun x1944 =>
          sl_ sL sX x1944 fun x1945 =>
          ob_ M a2 11 <| cl_ (k_M_loose a2 x1939 x1945 M) fun c1946 M =>
          lt_ c1946 fun v6_1949 =>
          ob_ M a2 11 <| cl_ (k_M_thrown a2 M) fun c1952 M =>
          if c1952 = v5_1931 then (
            jn_ (fun (M : mm_T) =>
              j2799 M
            ) fun j1979 =>
            if ¬ v5_1931 = 0 then (
              j1979 M
            ) else (
              aJ_ M a3 0 fun x1969 =>
              if lcm_ x1969 (i2l_ v6_1949) = 0 then (
                j1979 M
              ) else (
                zz_ 0 (some (0, M))
              )
            )
          ) else (
            zz_ 0 (some (0, M))
          )
        | 36 =>
          ck_ (v4 + 1) fun x1987 =>
          sl_ sL sX x1987 fun x1988 =>
          ck_ (v4 + 2) fun x1993 =>
          sl_ sL sX x1993 fun x1994 =>
          cl_ (k_L_pattern a1 x1988 x1994 a3 M) fun c1996 M =>
          lt_ c1996 fun v5_1999 =>
          ck_ (v4 + 1) fun x2006 =>
          sl_ sL sX x2006 fun x2007 =>
          ck_ (v4 + 2) fun x2012 =>
          sl_ sL sX x2012 fun x2013 =>
          ob_ M a2 11 <| cl_ (k_M_pattern a2 x2007 x2013 M) fun c2014 M =>
          lt_ c2014 fun v6_2017 =>
          ob_ M a2 11 <| cl_ (k_M_thrown a2 M) fun c2020 M =>
          if c2020 = v5_1999 then (
            jn_ (fun (M : mm_T) =>
              j2799 M
            ) fun j2047 =>
            if ¬ v5_1999 = 0 then (
              j2047 M
            ) else (
              aJ_ M a3 0 fun x2037 =>
              if lcm_ x2037 (i2l_ v6_2017) = 0 then (
                j2047 M
              ) else (
                zz_ 0 (some (0, M))
              )
            )
          ) else (
            zz_ 0 (some (0, M))
          )
        | 37 =>
          ck_ (v4 + 1) fun x2055 =>
          sl_ sL sX x2055 fun x2056 =>
          cl_ (k_L_stuck a1 x2056 a3 M) fun c2058 M =>
          lt_ c2058 fun v5_2061 =>
          ck_ (v4 + 1) fun x2068 =>
          sl_ sL sX x2068 fun x2069 =>
          ob_ M a2 11 <| cl_ (k_M_stuck a2 x2069 M) fun c2070 M =>
          lt_ c2070 fun v6_2073 =>
          ob_ M a2 11 <| cl_ (k_M_thrown a2 M) fun c2076 M =>
          if c2076 = v5_2061 then (
            jn_ (fun (M : mm_T) =>
              j2799 M
            ) fun j2103 =>
            if ¬ v5_2061 = 0 then (
              j2103 M
            ) else (
              aJ_ M a3 0 fun x2093 =>
              if lcm_ x2093 (i2l_ v6_2073) = 0 then (
                j2103 M
              ) else (
                zz_ 0 (some (0, M))
              )
            )
          ) else (
            zz_ 0 (some (0, M))
          )
        | 38 =>
          cl_ (k_L_rank a1 a3 M) fun c2108 M =>
          lt_ c2108 fun v5_2111 =>
          ob_ M a2 11 <| cl_ (k_M_rank a2 M) fun c2114 M =>
          lt_ c2114 fun v6_2117 =>
          ob_ M a2 11 <| cl_ (k_M_thrown a2 M) fun c2120 M =>
          if c2120 = v5_2111 then (
            jn_ (fun (M : mm_T) =>
              j2799 M
            ) fun j2147 =>
            if ¬ v5_2111 = 0 then (
              j2147 M
            ) else (
              aJ_ M a3 0 fun x2137 =>
              if lcm_ x2137 (i2l_ v6_2117) = 0 then (
                j2147 M
              ) else (
                zz_ 0 (some (0, M))
              )
            )
          ) else (
            zz_ 0 (some (0, M))
          )
        | 39 =>
          ck_ (v4 + 1) fun x2155 =>
          sl_ sL sX x2155 fun x2156 =>
          ck_ (v4 + 2) fun x2161 =>
          sl_ sL sX x2161 fun x2162 =>
          cl_ (k_L_nth a1 x2156 x2162 a3 M) fun c2164 M =>
          lt_ c2164 fun v5_2167 =>
          ck_ (v4 + 1) fun x2174 =>
          sl_ sL sX x2174 fun x2175 =>
          ck_ (v4 + 2) fun x2180 =>
          sl_ sL sX x2180 fun x2181 =>
          ob_ M a2 11 <| cl_ (k_M_nth a2 x2175 x2181 M) fun c2182 M =>
          lt_ c2182 fun v6_2185 =>
          ob_ M a2 11 <| cl_ (k_M_thrown a2 M) fun c2188 M =>
          if c2188 = v5_2167 then (
            jn_ (fun (M : mm_T) =>
              j2799 M
            ) fun j2215 =>
            if ¬ v5_2167 = 0 then (
              j2215 M
            ) else (
              aJ_ M a3 0 fun x2205 =>
              if lcm_ x2205 (i2l_ v6_2185) = 0 then (
                j2215 M
              ) else (
                zz_ 0 (some (0, M))
              )
            )
          ) else (
            zz_ 0 (some (0, M))
          )
        | 40 =>
          ob_ M a1 10 <| cl_ (k_X_ahead a1 M) fun c2219 M =>
          ob_ M a2 11 <| cl_ (k_M_ahead a2 M) fun c2223 M =>
          if c2219 = c2223 then (
            j2799 M
          ) else (
            zz_ 0 (some (0, M))
          )
        | 41 =>
          ck_ (v4 + 1) fun x2236 =>
          sl_ sL sX x2236 fun x2237 =>
          ck_ (v4 + 2) fun x2242 =>
          sl_ sL sX x2242 fun x2243 =>
          ck_ (v4 + 3) fun x2248 =>
          sl_ sL sX x2248 fun x2249 =>
          cl_ (k_L_limit a1 x2237 x2243 x2249 a3 M) fun c2251 M =>
          lt_ c2251 fun v5_2254 =>
          ck_ (v4 + 1) fun x2261 =>
          sl_ sL sX x2261 fun x2262 =>
          ck_ (v4 + 2) fun x2267 =>
          sl_ sL sX x2267 fun x2268 =>
          ck_ (v4 + 3) fun x2273 =>
          sl_ sL sX x2273 fun x2274 =>
          ob_ M a2 11 <| cl_ (k_M_limit a2 x2262 x2268 x2274 M) fun c2275 M =>
          lt_ c2275 fun v6_2278 =>
          ob_ M a2 11 <| cl_ (k_M_thrown a2 M) fun c2281 M =>
          if c2281 = v5_2254 then (
            jn_ (fun (M : mm_T) =>
              j2799 M
            ) fun j2308 =>
            if ¬ v5_2254 = 0 then (
              j2308 M
            ) else (
              aJ_ M a3 0 fun x2298 =>
              if lcm_ x2298 (i2l_ v6_2278) = 0 then (
                j2308 M
              ) else (
                zz_ 0 (some (0, M))
              )
            )
          ) else (
            zz_ 0 (some (0, M))
          )
        | 42 =>
          ck_ (v4 + 1) fun x2316 =>
          sl_ sL sX x2316 fun x2317 =>
          ck_ (v4 + 2) fun x2322 =>
          sl_ sL sX x2322 fun x2323 =>
          jn_ (fun (sa0_2332 : Nat) (s1_2332 : Int) (s2_2332 : Int) (M : mm_T) =>
            cl_ (k_L_avoid sa0_2332 s1_2332 s2_2332 a3 M) fun c2333 M =>
            lt_ c2333 fun v5_2336 =>
            ck_ (v4 + 1) fun x2343 =>
            sl_ sL sX x2343 fun x2344 =>
            ck_ (v4 + 2) fun x2349 =>
            sl_ sL sX x2349 fun x2350 =>
            jn_ (fun (sa0_2359 : Nat) (s1_2359 : Int) (s2_2359 : Int) (M : mm_T) =>
              ob_ M sa0_2359 11 <| cl_ (k_M_avoid sa0_2359 s1_2359 s2_2359 M) fun c2359 M =>
              lt_ c2359 fun v6_2362 =>
              ob_ M a2 11 <| cl_ (k_M_thrown a2 M) fun c2365 M =>
              if c2365 = v5_2336 then (
                jn_ (fun (M : mm_T) =>
                  j2799 M
                ) fun j2399 =>
                if ¬ v5_2336 = 0 then (
                  j2399 M
                ) else (
                  aJ_ M a3 0 fun x2382 =>
                  jn_ (fun (sw0_2393 : Int64) (sw1_2393 : Int64) (M : mm_T) =>
                    if lcm_ sw0_2393 sw1_2393 = 0 then (
                      j2399 M
                    ) else (
                      zz_ 0 (some (0, M))
                    )
                  ) fun j2393 =>
                  if v6_2362 = 0 then (
                    j2393 x2382 0 M
                  ) else (
                    j2393 x2382 1 M
                  )
                )
              ) else (
                zz_ 0 (some (0, M))
              )
            ) fun j2359 =>
            if x2350 = 0 then (
              j2359 a2 x2344 0 M
            ) else (
              j2359 a2 x2344 1 M
            )
          ) fun j2332 =>
          if x2323 = 0 then (
            j2332 a1 x2317 0 M
          ) else (
            j2332 a1 x2317 1 M
          )
        | 43 =>
          ck_ (v4 + 1) fun x2407 =>
          sl_ sL sX x2407 fun x2408 =>
          ob_ M a1 10 <| cl_ (k_X_lyndon a1 x2408 M) fun c2409 M =>
          ck_ (v4 + 1) fun x2417 =>
          sl_ sL sX x2417 fun x2418 =>
          ob_ M a2 11 <| cl_ (k_M_lyndon a2 x2418 M) fun c2419 M =>
          if c2409 = c2419 then (
            j2799 M
          ) else (
            zz_ 0 (some (0, M))
          )
        | 44 =>
          ob_ M a1 10 <| cl_ (k_X_turned a1 M) fun c2428 M =>
          ob_ M a2 11 <| cl_ (k_M_turned a2 M) fun c2432 M =>
          if c2428 = c2432 then (
            j2799 M
          ) else (
            zz_ 0 (some (0, M))
          )
        | 45 =>
          ck_ (v4 + 1) fun x2445 =>
          sl_ sL sX x2445 fun x2446 =>
          cl_ (k_L_local a1 x2446 a3 M) fun c2448 M =>
          lt_ c2448 fun v5_2451 =>
          ck_ (v4 + 1) fun x2458 =>
          sl_ sL sX x2458 fun x2459 =>
          ob_ M a2 11 <| cl_ (k_M_local a2 x2459 M) fun c2460 M =>
          lt_ c2460 fun v6_2463 =>
          ob_ M a2 11 <| cl_ (k_M_thrown a2 M) fun c2466 M =>
          if c2466 = v5_2451 then (
            jn_ (fun (M : mm_T) =>
              j2799 M
            ) fun j2493 =>
            if ¬ v5_2451 = 0 then (
              j2493 M
            ) else (
              aJ_ M a3 0 fun x2483 =>
              if lcm_ x2483 (i2l_ v6_2463) = 0 then (
                j2493 M
              ) else (
                zz_ 0 (some (0, M))
              )
            )
          ) else (
            zz_ 0 (some (0, M))
          )
        | 46 =>
          ck_ (v4 + 1) fun x2501 =>
          sl_ sL sX x2501 fun x2502 =>
          ck_ (v4 + 2) fun x2507 =>
          sl_ sL sX x2507 fun x2508 =>
          ck_ (v4 + 3) fun x2513 =>
          sl_ sL sX x2513 fun x2514 =>
          cl_ (k_L_fill a1 x2502 x2508 x2514 a3 M) fun c2516 M =>
          lt_ c2516 fun v5_2519 =>
          ck_ (v4 + 1) fun x2526 =>
          sl_ sL sX x2526 fun x2527 =>
          ck_ (v4 + 2) fun x2532 =>
          sl_ sL sX x2532 fun x2533 =>
          ck_ (v4 + 3) fun x2538 =>
          sl_ sL sX x2538 fun x2539 =>
          ob_ M a2 11 <| cl_ (k_M_fill a2 x2527 x2533 x2539 M) fun c2540 M =>
          lt_ c2540 fun v6_2543 =>
          ob_ M a2 11 <| cl_ (k_M_thrown a2 M) fun c2546 M =>
          if c2546 = v5_2519 then (
            jn_ (fun (M : mm_T) =>
              j2799 M
            ) fun j2573 =>
            if ¬ v5_2519 = 0 then (
              j2573 M
            ) else (
              aJ_ M a3 0 fun x2563 =>
              if lcm_ x2563 (i2l_ v6_2543) = 0 then (
                j2573 M
              ) else (
                zz_ 0 (some (0, M))
              )
            )
          ) else (
            zz_ 0 (some (0, M))
          )
        | 47 =>
          ck_ (v4 + 1) fun x2581 =>
          sl_ sL sX x2581 fun x2582 =>
          cl_ (k_L_sources a1 x2582 a3 M) fun c2584 M =>
          lt_ c2584 fun v5_2587 =>
          ck_ (v4 + 1) fun x2594 =>
          sl_ sL sX x2594 fun x2595 =>
          ob_ M a2 11 <| cl_ (k_M_sources a2 x2595 M) fun c2596 M =>
          lt_ c2596 fun w6_2599 =>
          ob_ M a2 11 <| cl_ (k_M_thrown a2 M) fun c2602 M =>
          if c2602 = v5_2587 then (
            jn_ (fun (M : mm_T) =>
              j2799 M
            ) fun j2628 =>
            if ¬ v5_2587 = 0 then (
              j2628 M
            ) else (
              aJ_ M a3 0 fun x2619 =>
              if lcm_ x2619 w6_2599 = 0 then (
                j2628 M
              ) else (
                zz_ 0 (some (0, M))
              )
            )
          ) else (
            zz_ 0 (some (0, M))
          )
        | 48 =>
          ck_ (v4 + 1) fun x2636 =>
          sl_ sL sX x2636 fun x2637 =>
          cl_ (k_L_code a1 x2637 a3 M) fun c2639 M =>
          lt_ c2639 fun v5_2642 =>
          ck_ (v4 + 1) fun x2649 =>
          sl_ sL sX x2649 fun x2650 =>
          ob_ M a2 11 <| cl_ (k_M_code a2 x2650 M) fun c2651 M =>
          lt_ c2651 fun v6_2654 =>
          ob_ M a2 11 <| cl_ (k_M_thrown a2 M) fun c2657 M =>
          if c2657 = v5_2642 then (
            jn_ (fun (M : mm_T) =>
              j2799 M
            ) fun j2691 =>
            if ¬ v5_2642 = 0 then (
              j2691 M
            ) else (
              aJ_ M a3 0 fun x2674 =>
              jn_ (fun (sw0_2685 : Int64) (sw1_2685 : Int64) (M : mm_T) =>
                if lcm_ sw0_2685 sw1_2685 = 0 then (
                  j2691 M
                ) else (
                  zz_ 0 (some (0, M))
                )
              ) fun j2685 =>
              if v6_2654 = 0 then (
                j2685 x2674 0 M
              ) else (
                j2685 x2674 1 M
              )
            )
          ) else (
            zz_ 0 (some (0, M))
          )
        | 49 =>
          ck_ (v4 + 1) fun x2699 =>
          sl_ sL sX x2699 fun x2700 =>
          ck_ (v4 + 2) fun x2705 =>
          sl_ sL sX x2705 fun x2706 =>
          ck_ (v4 + 3) fun x2711 =>
          sl_ sL sX x2711 fun x2712 =>
          cl_ (k_L_whole a1 x2700 x2706 x2712 a3 M) fun c2714 M =>
          lt_ c2714 fun v5_2717 =>
          ck_ (v4 + 1) fun x2724 =>
          sl_ sL sX x2724 fun x2725 =>
          ck_ (v4 + 2) fun x2730 =>
          sl_ sL sX x2730 fun x2731 =>
          ck_ (v4 + 3) fun x2736 =>
          sl_ sL sX x2736 fun x2737 =>
          ob_ M a2 11 <| cl_ (k_M_whole a2 x2725 x2731 x2737 M) fun c2738 M =>
          lt_ c2738 fun v6_2741 =>
          ob_ M a2 11 <| cl_ (k_M_thrown a2 M) fun c2744 M =>
          if c2744 = v5_2717 then (
            jn_ (fun (M : mm_T) =>
              j2799 M
            ) fun j2771 =>
            if ¬ v5_2717 = 0 then (
              j2771 M
            ) else (
              aJ_ M a3 0 fun x2761 =>
              if lcm_ x2761 (i2l_ v6_2741) = 0 then (
                j2771 M
              ) else (
                zz_ 0 (some (0, M))
              )
            )
          ) else (
            zz_ 0 (some (0, M))
          )
        | 50 =>
          ck_ (v4 + 1) fun x2779 =>
          sl_ sL sX x2779 fun x2780 =>
          ob_ M a1 10 <| cl_ (k_X_count a1 x2780 M) fun c2781 M =>
          ck_ (v4 + 1) fun x2789 =>
          sl_ sL sX x2789 fun x2790 =>
          ob_ M a2 11 <| cl_ (k_M_count a2 x2790 M) fun c2791 M =>
          if c2781 = c2791 then (
            j2799 M
          ) else (
            zz_ 0 (some (0, M))
          )
        | _ => none
    )

def k_L_law (sL : Nat) (sX : Nat → Int) (M : mm_T) : Option (Int × mm_T) :=
  nw_ M 10 10 fun r0 M =>
  ob_ M r0 10 <| cl_ (k_X_init r0 M) fun _ M =>
  lt_ r0 fun a1_7 =>
  nw_ M 11 32 fun r8 M =>
  ob_ M r8 11 <| cl_ (k_M_init r8 M) fun _ M =>
  lt_ r8 fun a2_15 =>
  na_ M 3 1 fun r17 M =>
  lt_ r17 fun a3_19 =>
  lt_ (0 : Int) fun v4_21 =>
  lp_L_law_23
    (fun (M : mm_T) =>
      zz_ 1 (some (1, M))
    )
    sL sX a1_7 a2_15 a3_19 FU_ v4_21 M
