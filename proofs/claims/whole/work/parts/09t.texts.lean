noncomputable def X10_status (σ : jq_M) : Option (Int) :=
  some (σ 0 0)
noncomputable def X10_top (σ : jq_M) : Option (Int) :=
  some (σ 0 1)
noncomputable def X10_bottom (σ : jq_M) : Option (Int) :=
  some (σ 0 2)
noncomputable def X10_trayAt (p1 : Int) (σ : jq_M) : Option (Int) :=
  if p1 < 0 then
    some (-1)
  
  else
    if p1 < 4 then
      (jq_chk p1 4).bind fun i1 =>
      some (64 + 2 * i1)
    
    else
      some (-1)
noncomputable def X10_within (p0 : Int) (p1 : Int) (p2 : Int) (σ : jq_M) : Option (Int) :=
  if p0 < p1 then
    some 0
  
  else
    if p2 < p0 then
      some 0
    
    else
      some 1
noncomputable def X10_deny (p1 : Int) (σ : jq_M) : Option (Int × jq_M) :=
  jq_lt (jq_st σ 0 0 p1) fun s1 =>
  some (0, s1)
noncomputable def X9_make_b12 (o : Int) (t3 : Int × jq_M) : Option ((Int × jq_M) ⊕ (jq_M)) :=
  if t3.1 < 60 then
    (jq_sa t3.2 (o + 1) 60 t3.1 0).bind fun s4 =>
    jq_lt (jq_w (t3.1 + 1)) fun v5 =>
    some (.inl (v5, s4))
  
  else
    some (.inr t3.2)
noncomputable def X9_make (o : Int) (p1 : Int) (p2 : Int) (σ : jq_M) : Option (jq_M) :=
  jq_lt (jq_st σ o 0 p1) fun s1 =>
  jq_lt (jq_st s1 o 1 p2) fun s2 =>
  (jq_lp (X9_make_b12 o) (0, s2)).bind (fun e6 =>
    some e6
  )
noncomputable def X10_grant (σ : jq_M) : Option (Int × jq_M) :=
  jq_lt (jq_st σ 0 0 0) fun s1 =>
  some (1, s1)
noncomputable def X10_tray_j31  (s5 : jq_M) : Option (Int × jq_M) :=
  jq_b2 (X10_deny 1 s5) fun v6 s7 =>
  some (v6, s7)
noncomputable def X10_tray (p1 : Int) (p2 : Int) (p3 : Int) (σ : jq_M) : Option (Int × jq_M) :=
  (X10_trayAt p1 σ).bind fun v1 =>
  (jq_trnc v1).bind fun v2 =>
  if v2 = -1 then
    X10_tray_j31 σ
  
  else
    (X10_within p2 0 3 σ).bind fun v9 =>
    if v9 = 0 then
      X10_tray_j31 σ
    
    else
      (X10_within p3 0 60 σ).bind fun v11 =>
      if v11 = 0 then
        X10_tray_j31 σ
      
      else
        (X9_make v2 p2 p3 σ).bind fun s13 =>
        jq_b2 (X10_grant s13) fun v14 s15 =>
        some (v14, s15)
noncomputable def X9_isMissing (o : Int) (σ : jq_M) : Option (Int) :=
  if σ o 0 = (-1) then
    some 1
  
  else
    some 0
noncomputable def X9_spans (o : Int) (p1 : Int) (p2 : Int) (σ : jq_M) : Option (Int) :=
  if p1 < 0 then
    some 0
  
  else
    if p2 < 0 then
      some 0
    
    else
      if 60 < σ o 1 then
        some 0
      
      else
        if σ o 1 < p1 then
          some 0
        
        else
          if jq_w ((σ o 1) - p1) < p2 then
            some 0
          
          else
            some 1
noncomputable def X10_whyNoNumbers (p0 : Int) (p1 : Int) (p2 : Int) (σ : jq_M) : Option (Int) :=
  if p0 = -1 then
    some 1
  
  else
    (X9_isMissing p0 σ).bind fun v2 =>
    if v2 = 0 then
      (X9_spans p0 p1 p2 σ).bind fun v4 =>
      if v4 = 0 then
        some 3
      
      else
        some 0
    
    else
      some 2
noncomputable def X9_cut (o : Int) (p1 : Int) (σ : jq_M) : Option (Int) :=
  if σ o 0 = 0 then
    some (jq_w8 (jq_w p1))
  
  else
    if σ o 0 = 1 then
      some (jq_w16 (jq_w p1))
    
    else
      if σ o 0 = 2 then
        some (jq_w p1)
      
      else
        some p1
noncomputable def X9_put (o : Int) (p1 : Int) (p2 : Int) (σ : jq_M) : Option (jq_M) :=
  (X9_spans o p1 1 σ).bind fun v1 =>
  if v1 = 0 then
    some σ
  
  else
    (X9_cut o p2 σ).bind fun v3 =>
    (jq_sa σ (o + 1) 60 p1 v3).bind fun s4 =>
    some s4
noncomputable def X10_write_j26  (j6 : Int) (s7 : jq_M) : Option (Int × jq_M) :=
  jq_b2 (X10_deny j6 s7) fun v8 s9 =>
  some (v8, s9)
noncomputable def X10_write (p1 : Int) (p2 : Int) (p3 : Int) (σ : jq_M) : Option (Int × jq_M) :=
  (X10_trayAt p1 σ).bind fun v1 =>
  (jq_trnc v1).bind fun v2 =>
  (X10_whyNoNumbers v2 p2 1 σ).bind fun v4 =>
  if v2 = -1 then
    X10_write_j26 v4 σ
  
  else
    if v4 = 0 then
      (X9_put v2 p2 p3 σ).bind fun s11 =>
      jq_b2 (X10_grant s11) fun v12 s13 =>
      some (v12, s13)
    
    else
      X10_write_j26 v4 σ
noncomputable def X10_refuse (p1 : Int) (σ : jq_M) : Option (Int × jq_M) :=
  jq_lt (jq_st σ 0 0 p1) fun s1 =>
  some ((-1), s1)
noncomputable def X9_numberAt (o : Int) (p1 : Int) (σ : jq_M) : Option (Int) :=
  (X9_spans o p1 1 σ).bind fun v1 =>
  if v1 = 0 then
    some 0
  
  else
    (jq_ld σ (o + 1) 60 p1).bind fun v3 =>
    some v3
noncomputable def X10_read_j23  (j6 : Int) (s7 : jq_M) : Option (Int × jq_M) :=
  jq_b2 (X10_refuse j6 s7) fun v8 s9 =>
  some (v8, s9)
noncomputable def X10_read (p1 : Int) (p2 : Int) (σ : jq_M) : Option (Int × jq_M) :=
  (X10_trayAt p1 σ).bind fun v1 =>
  (jq_trnc v1).bind fun v2 =>
  (X10_whyNoNumbers v2 p2 1 σ).bind fun v4 =>
  if v2 = -1 then
    X10_read_j23 v4 σ
  
  else
    if v4 = 0 then
      jq_lt (jq_st σ 0 0 0) fun s10 =>
      (X9_numberAt v2 p2 s10).bind fun v11 =>
      some (v11, s10)
    
    else
      X10_read_j23 v4 σ
noncomputable def X10_pour_j38  (s8 : jq_M) : Option (Int × jq_M) :=
  jq_b2 (X10_deny 1 s8) fun v9 s10 =>
  some (v9, s10)
noncomputable def X10_pour_j60  (s15 : jq_M) : Option (Int × jq_M) :=
  jq_b2 (X10_deny 2 s15) fun v16 s17 =>
  some (v16, s17)
noncomputable def X10_pour_j109  (s23 : jq_M) : Option (Int × jq_M) :=
  jq_b2 (X10_deny 3 s23) fun v24 s25 =>
  some (v24, s25)
noncomputable def X10_pour (p1 : Int) (p2 : Int) (p3 : Int) (p4 : Int) (p5 : Int) (σ : jq_M) : Option (Int × jq_M) :=
  (X10_trayAt p1 σ).bind fun v1 =>
  (jq_trnc v1).bind fun v2 =>
  (X10_trayAt p3 σ).bind fun v4 =>
  (jq_trnc v4).bind fun v5 =>
  if v2 = -1 then
    X10_pour_j38 σ
  
  else
    if v5 = -1 then
      X10_pour_j38 σ
    
    else
      if p2 < 0 then
        X10_pour_j38 σ
      
      else
        if p4 < 0 then
          X10_pour_j38 σ
        
        else
          if p5 < 0 then
            X10_pour_j38 σ
          
          else
            (X9_isMissing v2 σ).bind fun v13 =>
            if v13 = 0 then
              (X9_isMissing v5 σ).bind fun v19 =>
              if v19 = 0 then
                if σ v2 0 = σ v5 0 then
                  (X9_spans v2 p2 p5 σ).bind fun v21 =>
                  if v21 = 0 then
                    X10_pour_j109 σ
                  
                  else
                    (X9_spans v5 p4 p5 σ).bind fun v27 =>
                    if v27 = 0 then
                      X10_pour_j109 σ
                    
                    else
                      (jq_cpy σ (v2 + 1) 60 p2 (v5 + 1) 60 p4 p5).bind fun s29 =>
                      jq_b2 (X10_grant s29) fun v30 s31 =>
                      some (v30, s31)
                
                else
                  jq_b2 (X10_deny 8 σ) fun v33 s34 =>
                  some (v33, s34)
              
              else
                X10_pour_j60 σ
            
            else
              X10_pour_j60 σ
noncomputable def X5_add_b3 (p1 : Int) (t1 : Int × jq_M) : Option ((Int × jq_M) ⊕ (jq_M)) :=
  if t1.1 < 0 then
    some (.inr t1.2)
  
  else
    if t1.2 2 2 < 0 then
      some (.inr t1.2)
    
    else
      if t1.2 2 2 < 900 then
        (jq_sb t1.2 4 900 (t1.2 2 2) (jq_w8 (jq_shr p1 t1.1))).bind fun s2 =>
        jq_lt (jq_st s2 2 2 (jq_w ((s2 2 2) + 1))) fun s3 =>
        jq_lt (jq_w (t1.1 + (-8))) fun v4 =>
        some (.inl (v4, s3))
      
      else
        some (.inr t1.2)
noncomputable def X5_add (p1 : Int) (σ : jq_M) : Option (jq_M) :=
  (jq_lp (X5_add_b3 p1) (24, σ)).bind (fun e5 =>
    some e5
  )
noncomputable def X10_feed (p1 : Int) (p2 : Int) (p3 : Int) (p4 : Int) (p5 : Int) (σ : jq_M) : Option (Int × jq_M) :=
  if 880 < σ 2 2 then
    some ((-1), σ)
  
  else
    (X5_add p1 σ).bind fun s1 =>
    (X5_add p2 s1).bind fun s2 =>
    (X5_add p3 s2).bind fun s3 =>
    (X5_add p4 s3).bind fun s4 =>
    (X5_add p5 s4).bind fun s5 =>
    some (s5 2 2, s5)
noncomputable def X5_here (σ : jq_M) : Option (Int) :=
  if σ 2 4 < 0 then
    some 0
  
  else
    if σ 2 4 < σ 2 3 then
      if σ 2 4 < 900 then
        (jq_ld σ 4 900 (σ 2 4)).bind fun v1 =>
        some v1
      
      else
        some 0
    
    else
      some 0
noncomputable def X5_isBlank (p0 : Int) (σ : jq_M) : Option (Int) :=
  if p0 = 32 then
    some 1
  
  else
    if p0 = 10 then
      some 1
    
    else
      some 0
noncomputable def X5_isLetter (p0 : Int) (σ : jq_M) : Option (Int) :=
  if p0 < 97 then
    some 0
  
  else
    if 122 < p0 then
      some 0
    
    else
      some 1
noncomputable def X5_withLetter (Z : jq_Z) (p0 : Int) (p2 : Int) (σ : jq_M) : Option (Int) :=
  some (jq_w64 ((jq_w64 ((jq_w64 ((jq_shll p0 5) + p2)) - 97)) + 1))
noncomputable def X5_readWord_b7  (t2 : Int × jq_M) : Option ((Int × jq_M) ⊕ (Int × jq_M)) :=
  if t2.2 2 4 < t2.2 2 3 then
    (X5_here t2.2).bind fun v3 =>
    (X5_isLetter v3 t2.2).bind fun v4 =>
    if v4 = 0 then
      some (.inr (t2.1, t2.2))
    
    else
      (X5_here t2.2).bind fun v6 =>
      (X5_withLetter jq_zX t2.1 v6 t2.2).bind fun v7 =>
      jq_lt (jq_st t2.2 2 4 (jq_w ((t2.2 2 4) + 1))) fun s8 =>
      some (.inl (v7, s8))
  
  else
    some (.inr (t2.1, t2.2))
noncomputable def X5_readWord_b72 (j10 : Int) (t13 : Int × jq_M) : Option ((Int × jq_M) ⊕ (jq_M)) :=
  if t13.1 < 28 then
    (jq_ld t13.2 3 28 t13.1).bind fun v14 =>
    if jq_cmp v14 j10 = 0 then
      jq_lt (jq_st t13.2 2 11 t13.1) fun s16 =>
      jq_lt (jq_w (t13.1 + 1)) fun v17 =>
      some (.inl (v17, s16))
    
    else
      jq_lt (jq_w (t13.1 + 1)) fun v15 =>
      some (.inl (v15, t13.2))
  
  else
    some (.inr t13.2)
noncomputable def X5_readWord_j50  (j10 : Int) (s11 : jq_M) : Option (jq_M) :=
  if 8 < jq_w ((s11 2 4) - (s11 2 6)) then
    some s11
  
  else
    jq_lt (jq_st s11 2 9 j10) fun s12 =>
    (jq_lp (X5_readWord_b72 j10) (0, s12)).bind (fun e18 =>
      if e18 2 11 = (-1) then
        jq_lt (jq_st e18 2 10 1) fun s20 =>
        some s20
      
      else
        jq_lt (jq_st e18 2 10 0) fun s19 =>
        some s19
    )
noncomputable def X5_readWord (σ : jq_M) : Option (jq_M) :=
  jq_lt (jq_st σ 2 5 1) fun s1 =>
  (jq_lp (X5_readWord_b7) (0, s1)).bind (fun e9 =>
    X5_readWord_j50 e9.1 e9.2
  )
noncomputable def X5_isDigit (p0 : Int) (σ : jq_M) : Option (Int) :=
  if p0 < 48 then
    some 0
  
  else
    if 57 < p0 then
      some 0
    
    else
      some 1
noncomputable def X5_readNumber_b5  (t2 : jq_M) : Option ((jq_M) ⊕ (jq_M)) :=
  if t2 2 4 < t2 2 3 then
    (X5_here t2).bind fun v3 =>
    (X5_isDigit v3 t2).bind fun v4 =>
    if v4 = 0 then
      some (.inr t2)
    
    else
      (X5_here t2).bind fun v6 =>
      jq_lt (jq_st t2 2 7 (jq_w ((jq_w ((jq_w ((t2 2 7) * 10)) + v6)) - 48))) fun s7 =>
      jq_lt (jq_st s7 2 4 (jq_w ((s7 2 4) + 1))) fun s8 =>
      some (.inl s8)
  
  else
    some (.inr t2)
noncomputable def X5_readNumber_j58  (s10 : jq_M) : Option (jq_M) :=
  if 4 < jq_w ((s10 2 4) - (s10 2 6)) then
    jq_lt (jq_st s10 2 5 4) fun s12 =>
    some s12
  
  else
    jq_lt (jq_st s10 2 5 2) fun s11 =>
    some s11
noncomputable def X5_readNumber (σ : jq_M) : Option (jq_M) :=
  jq_lt (jq_st σ 2 7 0) fun s1 =>
  (jq_lp (X5_readNumber_b5) s1).bind (fun e9 =>
    X5_readNumber_j58 e9
  )
noncomputable def X5_readSign_j59  (j4 : Int) (s6 : jq_M) : Option (jq_M) :=
  if j4 = 0 then
    jq_lt (jq_st s6 2 5 4) fun s7 =>
    some s7
  
  else
    jq_lt (jq_st s6 2 5 3) fun s8 =>
    some s8
noncomputable def X5_readSign (σ : jq_M) : Option (jq_M) :=
  (X5_here σ).bind fun v1 =>
  jq_lt (jq_st σ 2 8 v1) fun s2 =>
  jq_lt (jq_st s2 2 4 (jq_w ((s2 2 4) + 1))) fun s3 =>
  if s3 2 8 = 59 then
    X5_readSign_j59 1 s3
  
  else
    if s3 2 8 = 60 then
      X5_readSign_j59 1 s3
    
    else
      if s3 2 8 = 62 then
        X5_readSign_j59 1 s3
      
      else
        if s3 2 8 = 61 then
          X5_readSign_j59 1 s3
        
        else
          X5_readSign_j59 0 s3
noncomputable def X5_next_b0  (t1 : jq_M) : Option ((jq_M) ⊕ (jq_M)) :=
  if t1 2 4 < t1 2 3 then
    (X5_here t1).bind fun v2 =>
    (X5_isBlank v2 t1).bind fun v3 =>
    if v3 = 0 then
      some (.inr t1)
    
    else
      jq_lt (jq_st t1 2 4 (jq_w ((t1 2 4) + 1))) fun s5 =>
      some (.inl s5)
  
  else
    some (.inr t1)
noncomputable def X5_next_j34  (s7 : jq_M) : Option (jq_M) :=
  jq_lt (jq_st s7 2 6 (s7 2 4)) fun s8 =>
  jq_lt (jq_st s8 2 11 (-1)) fun s9 =>
  jq_lt (jq_st s9 2 9 0) fun s10 =>
  jq_lt (jq_st s10 2 10 0) fun s11 =>
  if s11 2 4 < s11 2 3 then
    (X5_here s11).bind fun v12 =>
    (X5_isLetter v12 s11).bind fun v13 =>
    if v13 = 0 then
      (X5_here s11).bind fun v15 =>
      (X5_isDigit v15 s11).bind fun v16 =>
      if v16 = 0 then
        (X5_readSign s11).bind fun s18 =>
        some s18
      
      else
        (X5_readNumber s11).bind fun s19 =>
        some s19
    
    else
      (X5_readWord s11).bind fun s20 =>
      some s20
  
  else
    jq_lt (jq_st s11 2 5 0) fun s21 =>
    some s21
noncomputable def X5_next (σ : jq_M) : Option (jq_M) :=
  (jq_lp (X5_next_b0) σ).bind (fun e6 =>
    X5_next_j34 e6
  )
noncomputable def X5_open (p1 : Int) (σ : jq_M) : Option (jq_M) :=
  jq_lt (jq_st σ 2 3 (jq_min p1 (σ 2 2))) fun s1 =>
  jq_lt (jq_st s1 2 2 0) fun s2 =>
  jq_lt (jq_st s2 2 4 0) fun s3 =>
  jq_lt (jq_st s3 2 12 0) fun s4 =>
  jq_lt (jq_st s4 2 13 (-1)) fun s5 =>
  (X5_next s5).bind fun s6 =>
  some s6
noncomputable def X7_clear (o : Int) (σ : jq_M) : Option (jq_M) :=
  jq_lt (jq_st σ o 0 0) fun s1 =>
  jq_lt (jq_st s1 o 1 0) fun s2 =>
  jq_lt (jq_st s2 o 2 0) fun s3 =>
  jq_lt (jq_st s3 o 8 0) fun s4 =>
  some s4
noncomputable def X1_clear (o : Int) (σ : jq_M) : Option (jq_M) :=
  jq_lt (jq_st σ o 0 0) fun s1 =>
  jq_lt (jq_st s1 o 1 0) fun s2 =>
  jq_lt (jq_st s2 o 2 0) fun s3 =>
  jq_lt (jq_st s3 o 3 0) fun s4 =>
  jq_lt (jq_st s4 o 4 0) fun s5 =>
  jq_lt (jq_st s5 o 5 0) fun s6 =>
  jq_lt (jq_st s6 o 6 0) fun s7 =>
  (X7_clear (o + 13) s7).bind fun s8 =>
  some s8
noncomputable def X5_goesOn (σ : jq_M) : Option (Int) :=
  if σ 2 12 = 0 then
    if σ 2 5 = 0 then
      some 0
    
    else
      some 1
  
  else
    some 0
noncomputable def X5_blame (p1 : Int) (σ : jq_M) : Option (jq_M) :=
  if σ 2 12 = 0 then
    if σ 2 5 = 4 then
      jq_lt (jq_st σ 2 12 1) fun s3 =>
      jq_lt (jq_st s3 2 13 (s3 2 6)) fun s4 =>
      some s4
    
    else
      jq_lt (jq_st σ 2 12 p1) fun s1 =>
      jq_lt (jq_st s1 2 13 (s1 2 6)) fun s2 =>
      some s2
  
  else
    some σ
noncomputable def X5_hasFault (σ : jq_M) : Option (Int) :=
  if σ 2 12 = 0 then
    some 0
  
  else
    some 1
noncomputable def X5_numberWithin_j33 (p1 : Int) (s3 : jq_M) : Option (Int × jq_M) :=
  (X5_hasFault s3).bind fun v4 =>
  if v4 = 0 then
    some (s3 2 7, s3)
  
  else
    some (p1, s3)
noncomputable def X5_numberWithin (p1 : Int) (p2 : Int) (σ : jq_M) : Option (Int × jq_M) :=
  if σ 2 5 = 2 then
    (X10_within (σ 2 7) p1 p2 σ).bind fun v1 =>
    if v1 = 0 then
      (X5_blame 4 σ).bind fun s6 =>
      X5_numberWithin_j33 p1 s6
    
    else
      X5_numberWithin_j33 p1 σ
  
  else
    (X5_blame 2 σ).bind fun s7 =>
    X5_numberWithin_j33 p1 s7
noncomputable def X5_takeNumber (p1 : Int) (p2 : Int) (σ : jq_M) : Option (Int × jq_M) :=
  jq_b2 (X5_numberWithin p1 p2 σ) fun v1 s2 =>
  (X5_next s2).bind fun s3 =>
  some (v1, s3)
noncomputable def X5_isSign (p1 : Int) (σ : jq_M) : Option (Int) :=
  if σ 2 5 = 3 then
    if σ 2 8 = p1 then
      some 1
    
    else
      some 0
  
  else
    some 0
noncomputable def X5_passSign_j13  (s3 : jq_M) : Option (jq_M) :=
  (X5_next s3).bind fun s4 =>
  some s4
noncomputable def X5_passSign (p1 : Int) (σ : jq_M) : Option (jq_M) :=
  (X5_isSign p1 σ).bind fun v1 =>
  if v1 = 0 then
    (X5_blame 2 σ).bind fun s5 =>
    X5_passSign_j13 s5
  
  else
    X5_passSign_j13 σ
noncomputable def X2_readPlaces (p1 : Int) (σ : jq_M) : Option (jq_M) :=
  if σ p1 0 = 0 then
    (X5_next σ).bind fun s1 =>
    jq_b2 (X5_takeNumber 3 6 s1) fun v2 s3 =>
    jq_lt (jq_st s3 p1 0 v2) fun s4 =>
    (X5_passSign 59 s4).bind fun s5 =>
    some s5
  
  else
    (X5_blame 5 σ).bind fun s6 =>
    some s6
noncomputable def X2_readCorner (p1 : Int) (σ : jq_M) : Option (jq_M) :=
  if σ p1 0 = 0 then
    (X5_blame 2 σ).bind fun s6 =>
    some s6
  
  else
    (X5_next σ).bind fun s1 =>
    jq_b2 (X5_takeNumber 0 (jq_w ((s1 p1 0) - 1)) s1) fun v2 s3 =>
    jq_lt (jq_st s3 p1 1 (jq_or (s1 p1 1) (jq_shl 1 v2))) fun s4 =>
    (X5_passSign 59 s4).bind fun s5 =>
    some s5
noncomputable def X1_partyNamed_b2 (o : Int) (p1 : Int) (σ : jq_M) (t1 : Int) : Option ((Int) ⊕ ((Int) ⊕ (Unit))) :=
  if t1 < σ o 2 then
    if t1 < 5 then
      (jq_ld σ (o + 1) 5 t1).bind fun v2 =>
      if jq_cmp v2 p1 = 0 then
        some (.inr (.inl t1))
      
      else
        jq_lt (jq_w (t1 + 1)) fun v3 =>
        some (.inl v3)
    
    else
      some (.inr (.inr ()))
  
  else
    some (.inr (.inr ()))
noncomputable def X1_partyNamed (o : Int) (p1 : Int) (σ : jq_M) : Option (Int) :=
  (jq_lp (X1_partyNamed_b2 o p1 σ) 0).bind (Sum.elim (fun e4 =>
    some e4
  )
    (fun e5 =>
      some (-1)))
noncomputable def X1_articleNamed_b2 (o : Int) (p1 : Int) (σ : jq_M) (t1 : Int) : Option ((Int) ⊕ ((Int) ⊕ (Unit))) :=
  if t1 < σ o 4 then
    if t1 < 8 then
      (jq_ld σ (o + 8) 8 t1).bind fun v2 =>
      if jq_cmp v2 p1 = 0 then
        some (.inr (.inl t1))
      
      else
        jq_lt (jq_w (t1 + 1)) fun v3 =>
        some (.inl v3)
    
    else
      some (.inr (.inr ()))
  
  else
    some (.inr (.inr ()))
noncomputable def X1_articleNamed (o : Int) (p1 : Int) (σ : jq_M) : Option (Int) :=
  (jq_lp (X1_articleNamed_b2 o p1 σ) 0).bind (Sum.elim (fun e4 =>
    some e4
  )
    (fun e5 =>
      some (-1)))
noncomputable def X5_takeNewName_j49  (j8 : Int) (s9 : jq_M) : Option (Int × jq_M) :=
  (X5_next s9).bind fun s10 =>
  some (j8, s10)
noncomputable def X5_takeNewName_j44  (j5 : Int) (s6 : jq_M) : Option (Int × jq_M) :=
  (X5_blame 3 s6).bind fun s7 =>
  X5_takeNewName_j49 j5 s7
noncomputable def X5_takeNewName (p1 : Int) (σ : jq_M) : Option (Int × jq_M) :=
  jq_lt (σ 2 9) fun v1 =>
  jq_lt (σ 2 10) fun v2 =>
  if v2 = 0 then
    (X5_blame 2 σ).bind fun s12 =>
    X5_takeNewName_j49 v1 s12
  
  else
    (X1_partyNamed p1 (σ 2 9) σ).bind fun v4 =>
    if v4 = (-1) then
      (X1_articleNamed p1 (σ 2 9) σ).bind fun v11 =>
      if v11 = (-1) then
        X5_takeNewName_j49 v1 σ
      
      else
        X5_takeNewName_j44 v1 σ
    
    else
      X5_takeNewName_j44 v1 σ
noncomputable def X1_sitterAt_b2 (o : Int) (p1 : Int) (p2 : Int) (σ : jq_M) (t1 : Int) : Option ((Int) ⊕ ((Int) ⊕ (Unit))) :=
  if t1 < σ o 2 then
    if t1 < 5 then
      (jq_ld σ p2 5 t1).bind fun v2 =>
      if v2 = p1 then
        some (.inr (.inl t1))
      
      else
        jq_lt (jq_w (t1 + 1)) fun v3 =>
        some (.inl v3)
    
    else
      some (.inr (.inr ()))
  
  else
    some (.inr (.inr ()))
noncomputable def X1_sitterAt (o : Int) (p1 : Int) (p2 : Int) (σ : jq_M) : Option (Int) :=
  (jq_lp (X1_sitterAt_b2 o p1 p2 σ) 0).bind (Sum.elim (fun e4 =>
    some e4
  )
    (fun e5 =>
      some (-1)))
noncomputable def X2_takeFreePlace_j30  (j4 : Int) (s5 : jq_M) : Option (Int × jq_M) :=
  (X5_next s5).bind fun s6 =>
  some (j4, s6)
noncomputable def X2_takeFreePlace (p1 : Int) (σ : jq_M) : Option (Int × jq_M) :=
  jq_b2 (X5_numberWithin 0 (jq_w ((σ p1 0) - 1)) σ) fun v1 s2 =>
  (X1_sitterAt p1 v1 (p1 + 3) s2).bind fun v3 =>
  if v3 = (-1) then
    X2_takeFreePlace_j30 v1 s2
  
  else
    (X5_blame 5 s2).bind fun s7 =>
    X2_takeFreePlace_j30 v1 s7
noncomputable def X2_readParty_j35  (s4 : jq_M) : Option (jq_M) :=
  (X5_blame 6 s4).bind fun s5 =>
  some s5
noncomputable def X2_readParty_j119 (p1 : Int) (s14 : jq_M) : Option (jq_M) :=
  jq_lt (jq_st s14 p1 2 (jq_w ((s14 p1 2) + 1))) fun s15 =>
  (X5_passSign 59 s15).bind fun s16 =>
  some s16
noncomputable def X2_readParty_j96 (p1 : Int) (j12 : Int) (s13 : jq_M) : Option (jq_M) :=
  if s13 2 11 = 4 then
    (X5_next s13).bind fun s17 =>
    jq_b2 (X2_takeFreePlace p1 s17) fun v18 s19 =>
    (jq_sa s19 (p1 + 3) 5 j12 v18).bind fun s20 =>
    X2_readParty_j119 p1 s20
  
  else
    X2_readParty_j119 p1 s13
noncomputable def X2_readParty (p1 : Int) (σ : jq_M) : Option (jq_M) :=
  if σ p1 0 = 0 then
    (X5_blame 2 σ).bind fun s25 =>
    some s25
  
  else
    jq_lt (σ p1 2) fun v1 =>
    (X10_within v1 0 4 σ).bind fun v2 =>
    if v2 = 0 then
      X2_readParty_j35 σ
    
    else
      if v1 < σ p1 0 then
        (X5_next σ).bind fun s6 =>
        jq_b2 (X5_takeNewName p1 s6) fun v7 s8 =>
        (jq_sa s8 (p1 + 1) 5 v1 v7).bind fun s9 =>
        (jq_sa s9 (p1 + 2) 5 v1 0).bind fun s10 =>
        (jq_sa s10 (p1 + 3) 5 v1 (-1)).bind fun s11 =>
        if s11 2 11 = 3 then
          (X5_next s11).bind fun s21 =>
          jq_b2 (X5_takeNumber 0 50 s21) fun v22 s23 =>
          (jq_sa s23 (p1 + 2) 5 v1 v22).bind fun s24 =>
          X2_readParty_j96 p1 v1 s24
        
        else
          X2_readParty_j96 p1 v1 s11
      
      else
        X2_readParty_j35 σ
noncomputable def X5_blameUnlessNamed (p1 : Int) (σ : jq_M) : Option (jq_M) :=
  jq_lt (σ 2 10) fun v1 =>
  if v1 = 0 then
    (X5_blame 2 σ).bind fun s4 =>
    some s4
  
  else
    if p1 = (-1) then
      (X5_blame 3 σ).bind fun s3 =>
      some s3
    
    else
      some σ
noncomputable def X5_partyHere (p1 : Int) (σ : jq_M) : Option (Int × jq_M) :=
  (X1_partyNamed p1 (σ 2 9) σ).bind fun v1 =>
  (X5_blameUnlessNamed v1 σ).bind fun s2 =>
  (X5_hasFault s2).bind fun v3 =>
  if v3 = 0 then
    some (v1, s2)
  
  else
    some (0, s2)
noncomputable def X5_takeParty (p1 : Int) (σ : jq_M) : Option (Int × jq_M) :=
  jq_b2 (X5_partyHere p1 σ) fun v1 s2 =>
  (X5_next s2).bind fun s3 =>
  some (v1, s3)
noncomputable def X2_takeKind_j27  (j2 : Int) (s3 : jq_M) : Option (Int × jq_M) :=
  (X5_next s3).bind fun s4 =>
  if j2 = 7 then
    some (0, s4)
  
  else
    if j2 = 8 then
      some (1, s4)
    
    else
      some (2, s4)
noncomputable def X2_takeKind (σ : jq_M) : Option (Int × jq_M) :=
  jq_lt (σ 2 11) fun v1 =>
  if v1 = 7 then
    X2_takeKind_j27 v1 σ
  
  else
    if v1 = 8 then
      X2_takeKind_j27 v1 σ
    
    else
      if v1 = 1 then
        X2_takeKind_j27 v1 σ
      
      else
        (X5_blame 2 σ).bind fun s5 =>
        X2_takeKind_j27 v1 s5
noncomputable def X2_takeOther_j16  (j3 : Int) (s4 : jq_M) : Option (Int × jq_M) :=
  (X5_next s4).bind fun s5 =>
  some (j3, s5)
noncomputable def X2_takeOther (p1 : Int) (p2 : Int) (σ : jq_M) : Option (Int × jq_M) :=
  jq_b2 (X5_partyHere p1 σ) fun v1 s2 =>
  if v1 = p2 then
    (X5_blame 5 s2).bind fun s6 =>
    X2_takeOther_j16 v1 s6
  
  else
    X2_takeOther_j16 v1 s2
noncomputable def X5_passKeyword_j13  (s1 : jq_M) : Option (jq_M) :=
  (X5_next s1).bind fun s2 =>
  some s2
noncomputable def X5_passKeyword (p1 : Int) (σ : jq_M) : Option (jq_M) :=
  if σ 2 11 = p1 then
    X5_passKeyword_j13 σ
  
  else
    (X5_blame 2 σ).bind fun s3 =>
    X5_passKeyword_j13 s3
noncomputable def X2_readWish_j77 (p1 : Int) (p2 : Int) (j13 : Int) (j14 : Int) (j15 : Int) (s16 : jq_M) : Option (jq_M) :=
  (jq_sa s16 (p1 + 6) 20 j14 j15).bind fun s17 =>
  (X5_passKeyword 9 s17).bind fun s18 =>
  jq_b2 (X5_takeNumber 1 9 s18) fun v19 s20 =>
  (jq_sa s20 (p1 + 7) 20 j13 (jq_w (p2 * v19))).bind fun s21 =>
  jq_lt (jq_st s21 p1 3 (jq_w ((s21 p1 3) + 1))) fun s22 =>
  (X5_passSign 59 s22).bind fun s23 =>
  some s23
noncomputable def X2_readWish (p1 : Int) (p2 : Int) (σ : jq_M) : Option (jq_M) :=
  jq_lt (σ p1 3) fun v1 =>
  (X10_within v1 0 19 σ).bind fun v2 =>
  if v2 = 0 then
    (X5_blame 6 σ).bind fun s24 =>
    some s24
  
  else
    (X5_next σ).bind fun s4 =>
    jq_b2 (X5_takeParty p1 s4) fun v5 s6 =>
    jq_b2 (X2_takeKind s6) fun v7 s8 =>
    (jq_sa s8 (p1 + 4) 20 v1 v5).bind fun s9 =>
    (jq_sa s9 (p1 + 5) 20 v1 v7).bind fun s10 =>
    if v7 = 2 then
      X2_readWish_j77 p1 p2 v1 v1 (-1) s10
    
    else
      jq_b2 (X2_takeOther p1 v5 s10) fun v11 s12 =>
      X2_readWish_j77 p1 p2 v1 v1 v11 s12
noncomputable def X5_articleHere (p1 : Int) (σ : jq_M) : Option (Int × jq_M) :=
  (X1_articleNamed p1 (σ 2 9) σ).bind fun v1 =>
  (X5_blameUnlessNamed v1 σ).bind fun s2 =>
  (X5_hasFault s2).bind fun v3 =>
  if v3 = 0 then
    some (v1, s2)
  
  else
    some (0, s2)
noncomputable def X10_holds (p0 : Int) (p1 : Int) (σ : jq_M) : Option (Int) :=
  if jq_and (jq_shr p0 p1) 1 = 1 then
    some 1
  
  else
    some 0
noncomputable def X2_takeLeans_j48 (p1 : Int) (j10 : Int) (j11 : Int) (j12 : Int) (s13 : jq_M) : Option ((Int × Int × jq_M) ⊕ (Int × jq_M)) :=
  jq_lt (jq_or j10 (jq_shl 1 j12)) fun v14 =>
  (X5_next s13).bind fun s15 =>
  jq_lt (jq_w (j11 + 1)) fun v16 =>
  some (.inl (v14, v16, s15))
noncomputable def X2_takeLeans_b4 (p1 : Int) (t1 : Int × Int × jq_M) : Option ((Int × Int × jq_M) ⊕ (Int × jq_M)) :=
  if t1.2.1 < 900 then
    (X5_goesOn t1.2.2).bind fun v2 =>
    if v2 = 0 then
      some (.inr (t1.1, t1.2.2))
    
    else
      (X5_isSign 59 t1.2.2).bind fun v4 =>
      if v4 = 0 then
        jq_b2 (X5_articleHere p1 t1.2.2) fun v6 s7 =>
        (X10_holds t1.1 v6 s7).bind fun v8 =>
        if v8 = 0 then
          X2_takeLeans_j48 p1 t1.1 t1.2.1 v6 s7
        
        else
          (X5_blame 5 s7).bind fun s17 =>
          X2_takeLeans_j48 p1 t1.1 t1.2.1 v6 s17
      
      else
        some (.inr (t1.1, t1.2.2))
  
  else
    some (.inr (t1.1, t1.2.2))
noncomputable def X2_takeLeans (p1 : Int) (σ : jq_M) : Option (Int × jq_M) :=
  (jq_lp (X2_takeLeans_b4 p1) (0, 0, σ)).bind (fun e18 =>
    some (e18.1, e18.2)
  )
noncomputable def X2_readArticle_j90 (p1 : Int) (j13 : Int) (s14 : jq_M) : Option (jq_M) :=
  jq_b2 (X2_takeLeans p1 s14) fun v15 s16 =>
  (jq_sa s16 (p1 + 11) 8 j13 v15).bind fun s17 =>
  (jq_sa s17 (p1 + 12) 8 j13 0).bind fun s18 =>
  jq_lt (jq_st s18 p1 4 (jq_w ((s18 p1 4) + 1))) fun s19 =>
  (X5_passSign 59 s19).bind fun s20 =>
  some s20
noncomputable def X2_readArticle (p1 : Int) (σ : jq_M) : Option (jq_M) :=
  jq_lt (σ p1 4) fun v1 =>
  (X10_within v1 0 7 σ).bind fun v2 =>
  if v2 = 0 then
    (X5_blame 6 σ).bind fun s25 =>
    some s25
  
  else
    (X5_next σ).bind fun s4 =>
    jq_b2 (X5_takeNewName p1 s4) fun v5 s6 =>
    (jq_sa s6 (p1 + 8) 8 v1 v5).bind fun s7 =>
    (X5_passKeyword 11 s7).bind fun s8 =>
    jq_b2 (X5_takeNumber 1 30 s8) fun v9 s10 =>
    (jq_sa s10 (p1 + 9) 8 v1 v9).bind fun s11 =>
    (jq_sa s11 (p1 + 10) 8 v1 16).bind fun s12 =>
    if s12 2 11 = 12 then
      (X5_next s12).bind fun s21 =>
      jq_b2 (X5_takeNumber 0 16 s21) fun v22 s23 =>
      (jq_sa s23 (p1 + 10) 8 v1 v22).bind fun s24 =>
      X2_readArticle_j90 p1 v1 s24
    
    else
      X2_readArticle_j90 p1 v1 s12
noncomputable def X2_readAll_b6 (p1 : Int) (t2 : Int × jq_M) : Option ((Int × jq_M) ⊕ (jq_M)) :=
  if t2.1 < 900 then
    (X5_goesOn t2.2).bind fun v3 =>
    if v3 = 0 then
      some (.inr t2.2)
    
    else
      if t2.2 2 11 = 0 then
        (X2_readPlaces p1 t2.2).bind fun s6 =>
        jq_lt (jq_w (t2.1 + 1)) fun v7 =>
        some (.inl (v7, s6))
      
      else
        if t2.2 2 11 = 1 then
          (X2_readCorner p1 t2.2).bind fun s9 =>
          jq_lt (jq_w (t2.1 + 1)) fun v10 =>
          some (.inl (v10, s9))
        
        else
          if t2.2 2 11 = 2 then
            (X2_readParty p1 t2.2).bind fun s12 =>
            jq_lt (jq_w (t2.1 + 1)) fun v13 =>
            some (.inl (v13, s12))
          
          else
            if t2.2 2 11 = 3 then
              (X5_blame 2 t2.2).bind fun s15 =>
              jq_lt (jq_w (t2.1 + 1)) fun v16 =>
              some (.inl (v16, s15))
            
            else
              if t2.2 2 11 = 4 then
                (X5_blame 2 t2.2).bind fun s18 =>
                jq_lt (jq_w (t2.1 + 1)) fun v19 =>
                some (.inl (v19, s18))
              
              else
                if t2.2 2 11 = 5 then
                  (X2_readWish p1 1 t2.2).bind fun s21 =>
                  jq_lt (jq_w (t2.1 + 1)) fun v22 =>
                  some (.inl (v22, s21))
                
                else
                  if t2.2 2 11 = 6 then
                    (X2_readWish p1 (-1) t2.2).bind fun s24 =>
                    jq_lt (jq_w (t2.1 + 1)) fun v25 =>
                    some (.inl (v25, s24))
                  
                  else
                    if t2.2 2 11 = 7 then
                      (X5_blame 2 t2.2).bind fun s27 =>
                      jq_lt (jq_w (t2.1 + 1)) fun v28 =>
                      some (.inl (v28, s27))
                    
                    else
                      if t2.2 2 11 = 8 then
                        (X5_blame 2 t2.2).bind fun s30 =>
                        jq_lt (jq_w (t2.1 + 1)) fun v31 =>
                        some (.inl (v31, s30))
                      
                      else
                        if t2.2 2 11 = 9 then
                          (X5_blame 2 t2.2).bind fun s33 =>
                          jq_lt (jq_w (t2.1 + 1)) fun v34 =>
                          some (.inl (v34, s33))
                        
                        else
                          if t2.2 2 11 = 10 then
                            (X2_readArticle p1 t2.2).bind fun s36 =>
                            jq_lt (jq_w (t2.1 + 1)) fun v37 =>
                            some (.inl (v37, s36))
                          
                          else
                            (X5_blame 2 t2.2).bind fun s38 =>
                            jq_lt (jq_w (t2.1 + 1)) fun v39 =>
                            some (.inl (v39, s38))
  
  else
    some (.inr t2.2)
noncomputable def X2_readAll (p1 : Int) (σ : jq_M) : Option (jq_M) :=
  (X1_clear p1 σ).bind fun s1 =>
  (jq_lp (X2_readAll_b6 p1) (0, s1)).bind (fun e40 =>
    some e40
  )
noncomputable def X10_keepFault (σ : jq_M) : Option (Int × jq_M) :=
  jq_lt (jq_st σ 0 5 (σ 2 12)) fun s1 =>
  jq_lt (jq_st s1 0 6 (s1 2 13)) fun s2 =>
  if s2 0 5 = 0 then
    some (1, s2)
  
  else
    some (0, s2)
noncomputable def X10_answer (p1 : Int) (σ : jq_M) : Option (Int × jq_M) :=
  jq_lt (jq_st σ 0 0 0) fun s1 =>
  some (p1, s1)
noncomputable def X10_committee_j15  (s1 : jq_M) : Option (Int × jq_M) :=
  jq_b2 (X10_refuse 1 s1) fun v2 s3 =>
  some (v2, s3)
noncomputable def X10_committee (p1 : Int) (σ : jq_M) : Option (Int × jq_M) :=
  if p1 < 0 then
    X10_committee_j15 σ
  
  else
    if σ 2 2 < p1 then
      X10_committee_j15 σ
    
    else
      (X5_open p1 σ).bind fun s4 =>
      jq_lt (s4 0 8) fun c5 =>
      (X2_readAll c5 s4).bind fun s7 =>
      jq_b2 (X10_keepFault s7) fun v8 s9 =>
      if v8 = 0 then
        jq_b2 (X10_refuse 9 s9) fun v21 s22 =>
        some (v21, s22)
      
      else
        jq_lt (s9 0 7) fun c11 =>
        jq_lt (s9 0 8) fun c13 =>
        jq_lt (jq_st s9 0 7 c13) fun s15 =>
        jq_lt (jq_st s15 0 8 c11) fun s16 =>
        jq_lt (s16 0 7) fun c17 =>
        jq_b2 (X10_answer (s16 c17 3) s16) fun v19 s20 =>
        some (v19, s20)
noncomputable def X7_addLine (o : Int) (p1 : Int) (σ : jq_M) : Option (Int × jq_M) :=
  jq_lt (σ o 2) fun v1 =>
  if v1 < 0 then
    some ((-1), σ)
  
  else
    if v1 < 60 then
      (jq_sa σ (o + 1) 60 v1 p1).bind fun s2 =>
      (jq_sa s2 (o + 2) 60 v1 0).bind fun s3 =>
      (jq_sa s3 (o + 3) 60 v1 0).bind fun s4 =>
      (jq_sa s4 (o + 4) 60 v1 (-1)).bind fun s5 =>
      jq_lt (jq_st s5 o 2 (jq_w ((s5 o 2) + 1))) fun s6 =>
      some (v1, s6)
    
    else
      some ((-1), σ)
noncomputable def X7_setMate (o : Int) (p1 : Int) (p2 : Int) (σ : jq_M) : Option (jq_M) :=
  if p1 < 0 then
    some σ
  
  else
    if p1 < 60 then
      (jq_sa σ (o + 4) 60 p1 p2).bind fun s1 =>
      some s1
    
    else
      some σ
noncomputable def X7_closeOne (o : Int) (σ : jq_M) : Option (jq_M) :=
  if 0 < σ o 8 then
    if 3 < σ o 8 then
      some σ
    
    else
      jq_lt (jq_st σ o 8 (jq_w ((σ o 8) - 1))) fun s1 =>
      (jq_ld s1 (o + 5) 3 (s1 o 8)).bind fun v2 =>
      jq_b2 (X7_addLine o 26 s1) fun v3 s4 =>
      (X7_setMate o v2 v3 s4).bind fun s5 =>
      (X7_setMate o v3 v2 s5).bind fun s6 =>
      some s6
  
  else
    some σ
noncomputable def X6_readEnd (p1 : Int) (σ : jq_M) : Option (jq_M) :=
  if σ p1 8 = 0 then
    (X5_blame 2 σ).bind fun s4 =>
    some s4
  
  else
    (X7_closeOne p1 σ).bind fun s1 =>
    (X5_next s1).bind fun s2 =>
    (X5_passSign 59 s2).bind fun s3 =>
    some s3
noncomputable def X6_isStepWord (p0 : Int) (σ : jq_M) : Option (Int) :=
  (X10_within p0 13 21 σ).bind fun v1 =>
  if v1 = 0 then
    if p0 = 25 then
      some 1
    
    else
      if p0 = 27 then
        some 1
      
      else
        some 0
  
  else
    some 1
noncomputable def X7_isFull (o : Int) (σ : jq_M) : Option (Int) :=
  if σ o 1 < 30 then
    some 0
  
  else
    some 1
noncomputable def X6_opens (p0 : Int) (σ : jq_M) : Option (Int) :=
  if p0 = 21 then
    some 1
  
  else
    if p0 = 25 then
      some 1
    
    else
      some 0
noncomputable def X7_isDeep (o : Int) (σ : jq_M) : Option (Int) :=
  if σ o 8 < 3 then
    some 0
  
  else
    some 1
noncomputable def X6_mayBegin_j57  (s7 : jq_M) : Option (Int × jq_M) :=
  (X5_hasFault s7).bind fun v8 =>
  if v8 = 0 then
    some (1, s7)
  
  else
    some (0, s7)
noncomputable def X6_mayBegin (p1 : Int) (σ : jq_M) : Option (Int × jq_M) :=
  (X6_isStepWord (σ 2 11) σ).bind fun v1 =>
  if v1 = 0 then
    (X5_blame 2 σ).bind fun s14 =>
    X6_mayBegin_j57 s14
  
  else
    (X7_isFull p1 σ).bind fun v3 =>
    if v3 = 0 then
      (X6_opens (σ 2 11) σ).bind fun v5 =>
      if v5 = 0 then
        X6_mayBegin_j57 σ
      
      else
        (X7_isDeep p1 σ).bind fun v10 =>
        if v10 = 0 then
          X6_mayBegin_j57 σ
        
        else
          (X5_blame 7 σ).bind fun s12 =>
          X6_mayBegin_j57 s12
    
    else
      (X5_blame 6 σ).bind fun s13 =>
      X6_mayBegin_j57 s13
noncomputable def X7_addStep (o : Int) (p1 : Int) (σ : jq_M) : Option (Int × jq_M) :=
  jq_lt (jq_st σ o 1 (jq_w ((σ o 1) + 1))) fun s1 =>
  jq_b2 (X7_addLine o p1 s1) fun v2 s3 =>
  some (v2, s3)
noncomputable def X7_openAt (o : Int) (p1 : Int) (σ : jq_M) : Option (jq_M) :=
  if σ o 8 < 0 then
    some σ
  
  else
    if σ o 8 < 3 then
      (jq_sa σ (o + 5) 3 (σ o 8) p1).bind fun s1 =>
      jq_lt (jq_st s1 o 8 (jq_w ((s1 o 8) + 1))) fun s2 =>
      some s2
    
    else
      some σ
noncomputable def X6_beginStep_j24  (j5 : Int) (s6 : jq_M) : Option (Int × jq_M) :=
  (X5_next s6).bind fun s7 =>
  some (j5, s7)
noncomputable def X6_beginStep (p1 : Int) (σ : jq_M) : Option (Int × jq_M) :=
  jq_b2 (X7_addStep p1 (σ 2 11) σ) fun v1 s2 =>
  (X6_opens (s2 2 11) s2).bind fun v3 =>
  if v3 = 0 then
    X6_beginStep_j24 v1 s2
  
  else
    (X7_openAt p1 v1 s2).bind fun s8 =>
    X6_beginStep_j24 v1 s8
noncomputable def X5_takeArticle (p1 : Int) (σ : jq_M) : Option (Int × jq_M) :=
  jq_b2 (X5_articleHere p1 σ) fun v1 s2 =>
  (X5_next s2).bind fun s3 =>
  some (v1, s3)
noncomputable def X5_takeCompares_j32  (s3 : jq_M) : Option (Int × jq_M) :=
  jq_lt (s3 2 8) fun v4 =>
  (X5_next s3).bind fun s5 =>
  some (v4, s5)
noncomputable def X5_takeCompares (σ : jq_M) : Option (Int × jq_M) :=
  (X5_isSign 60 σ).bind fun v1 =>
  if v1 = 0 then
    (X5_isSign 62 σ).bind fun v6 =>
    if v6 = 0 then
      (X5_isSign 61 σ).bind fun v8 =>
      if v8 = 0 then
        (X5_blame 2 σ).bind fun s10 =>
        X5_takeCompares_j32 s10
      
      else
        X5_takeCompares_j32 σ
    
    else
      X5_takeCompares_j32 σ
  
  else
    X5_takeCompares_j32 σ
noncomputable def X7_setOperands (o : Int) (p1 : Int) (p2 : Int) (p3 : Int) (σ : jq_M) : Option (jq_M) :=
  if p1 < 0 then
    some σ
  
  else
    if p1 < 60 then
      (jq_sa σ (o + 2) 60 p1 p2).bind fun s1 =>
      (jq_sa s1 (o + 3) 60 p1 p3).bind fun s2 =>
      some s2
    
    else
      some σ
noncomputable def X6_readTest_j86 (p2 : Int) (p3 : Int) (j3 : Int) (j4 : Int) (s5 : jq_M) : Option (jq_M) :=
  (X7_setOperands p2 p3 j3 j4 s5).bind fun s6 =>
  some s6
noncomputable def X6_readTest (p1 : Int) (p2 : Int) (p3 : Int) (σ : jq_M) : Option (jq_M) :=
  jq_lt (σ 2 11) fun v1 =>
  if v1 = 22 then
    (X5_next σ).bind fun s15 =>
    jq_b2 (X5_takeParty p1 s15) fun v16 s17 =>
    X6_readTest_j86 p2 p3 v1 v16 s17
  
  else
    if v1 = 23 then
      (X5_next σ).bind fun s12 =>
      jq_b2 (X5_takeArticle p1 s12) fun v13 s14 =>
      X6_readTest_j86 p2 p3 v1 v13 s14
    
    else
      if v1 = 24 then
        (X5_next σ).bind fun s7 =>
        jq_b2 (X5_takeCompares s7) fun v8 s9 =>
        jq_b2 (X5_takeNumber 0 999 s9) fun v10 s11 =>
        X6_readTest_j86 p2 p3 v8 v10 s11
      
      else
        (X5_blame 2 σ).bind fun s2 =>
        X6_readTest_j86 p2 p3 v1 0 s2
noncomputable def X6_readOperands_j172 (p2 : Int) (p3 : Int) (j6 : Int) (j7 : Int) (s8 : jq_M) : Option (jq_M) :=
  (X7_setOperands p2 p3 j6 j7 s8).bind fun s9 =>
  some s9
noncomputable def X6_readOperands (p1 : Int) (p2 : Int) (p3 : Int) (p4 : Int) (σ : jq_M) : Option (jq_M) :=
  if p4 = 13 then
    jq_b2 (X5_takeParty p1 σ) fun v2 s3 =>
    jq_b2 (X5_takeNumber 0 (jq_w ((s3 p1 0) - 1)) s3) fun v4 s5 =>
    X6_readOperands_j172 p2 p3 v2 v4 s5
  
  else
    if p4 = 14 then
      jq_b2 (X5_takeParty p1 σ) fun v11 s12 =>
      X6_readOperands_j172 p2 p3 v11 0 s12
    
    else
      if p4 = 15 then
        jq_b2 (X5_takeParty p1 σ) fun v14 s15 =>
        jq_b2 (X5_takeParty p1 s15) fun v16 s17 =>
        X6_readOperands_j172 p2 p3 v14 v16 s17
      
      else
        if p4 = 16 then
          jq_b2 (X5_takeNumber 0 9 σ) fun v19 s20 =>
          X6_readOperands_j172 p2 p3 v19 0 s20
        
        else
          if p4 = 17 then
            jq_b2 (X5_takeNumber 1 20 σ) fun v22 s23 =>
            X6_readOperands_j172 p2 p3 v22 0 s23
          
          else
            if p4 = 18 then
              jq_b2 (X5_takeArticle p1 σ) fun v25 s26 =>
              X6_readOperands_j172 p2 p3 v25 0 s26
            
            else
              if p4 = 19 then
                jq_b2 (X5_takeArticle p1 σ) fun v28 s29 =>
                X6_readOperands_j172 p2 p3 v28 0 s29
              
              else
                if p4 = 20 then
                  X6_readOperands_j172 p2 p3 0 0 σ
                
                else
                  if p4 = 21 then
                    X6_readOperands_j172 p2 p3 0 0 σ
                  
                  else
                    if p4 = 22 then
                      X6_readOperands_j172 p2 p3 0 0 σ
                    
                    else
                      if p4 = 23 then
                        X6_readOperands_j172 p2 p3 0 0 σ
                      
                      else
                        if p4 = 24 then
                          X6_readOperands_j172 p2 p3 0 0 σ
                        
                        else
                          if p4 = 25 then
                            jq_b2 (X5_takeNumber 1 99 σ) fun v36 s37 =>
                            X6_readOperands_j172 p2 p3 v36 0 s37
                          
                          else
                            X6_readOperands_j172 p2 p3 0 0 σ
noncomputable def X6_readAll_j91 (p1 : Int) (p2 : Int) (j14 : Int) (s15 : jq_M) : Option ((Int × jq_M) ⊕ (jq_M)) :=
  (X5_passSign 59 s15).bind fun s16 =>
  jq_lt (jq_w (j14 + 1)) fun v17 =>
  some (.inl (v17, s16))
noncomputable def X6_readAll_b11 (p1 : Int) (p2 : Int) (t3 : Int × jq_M) : Option ((Int × jq_M) ⊕ (jq_M)) :=
  if t3.1 < 900 then
    (X5_goesOn t3.2).bind fun v4 =>
    if v4 = 0 then
      some (.inr t3.2)
    
    else
      if t3.2 2 11 = 26 then
        (X6_readEnd p2 t3.2).bind fun s19 =>
        jq_lt (jq_w (t3.1 + 1)) fun v20 =>
        some (.inl (v20, s19))
      
      else
        jq_b2 (X6_mayBegin p2 t3.2) fun v6 s7 =>
        if v6 = 0 then
          jq_lt (jq_w (t3.1 + 1)) fun v9 =>
          some (.inl (v9, s7))
        
        else
          jq_lt (s7 2 11) fun v10 =>
          jq_b2 (X6_beginStep p2 s7) fun v11 s12 =>
          if v10 = 21 then
            (X6_readTest p1 p2 v11 s12).bind fun s18 =>
            X6_readAll_j91 p1 p2 t3.1 s18
          
          else
            (X6_readOperands p1 p2 v11 v10 s12).bind fun s13 =>
            X6_readAll_j91 p1 p2 t3.1 s13
  
  else
    some (.inr t3.2)
noncomputable def X6_readAll_j103 (p2 : Int) (s22 : jq_M) : Option (jq_M) :=
  if 0 < s22 p2 8 then
    (X5_blame 2 s22).bind fun s23 =>
    some s23
  
  else
    some s22
noncomputable def X6_readAll (p1 : Int) (p2 : Int) (σ : jq_M) : Option (jq_M) :=
  (X7_clear p2 σ).bind fun s1 =>
  jq_lt (jq_st s1 p2 0 1) fun s2 =>
  (jq_lp (X6_readAll_b11 p1 p2) (0, s2)).bind (fun e21 =>
    X6_readAll_j103 p2 e21
  )
noncomputable def X7_takeFrom (o : Int) (p1 : Int) (σ : jq_M) : Option (jq_M) :=
  jq_lt (σ p1 0) fun v1 =>
  jq_lt (jq_st σ o 0 v1) fun s3 =>
  jq_lt (jq_st s3 o 1 (s3 p1 1)) fun s4 =>
  jq_lt (jq_st s4 o 2 (s4 p1 2)) fun s5 =>
  (jq_cpy s5 (p1 + 1) 60 0 (o + 1) 60 0 60).bind fun s6 =>
  (jq_cpy s6 (p1 + 2) 60 0 (o + 2) 60 0 60).bind fun s7 =>
  (jq_cpy s7 (p1 + 3) 60 0 (o + 3) 60 0 60).bind fun s8 =>
  (jq_cpy s8 (p1 + 4) 60 0 (o + 4) 60 0 60).bind fun s9 =>
  some s9
noncomputable def X10_sessions_j22  (s1 : jq_M) : Option (Int × jq_M) :=
  jq_b2 (X10_refuse 1 s1) fun v2 s3 =>
  some (v2, s3)
noncomputable def X10_sessions (p1 : Int) (σ : jq_M) : Option (Int × jq_M) :=
  if p1 < 0 then
    X10_sessions_j22 σ
  
  else
    if σ 2 2 < p1 then
      X10_sessions_j22 σ
    
    else
      if 300 < p1 then
        X10_sessions_j22 σ
      
      else
        (X5_open p1 σ).bind fun s4 =>
        jq_lt (s4 0 7) fun c5 =>
        (X6_readAll c5 45 s4).bind fun s7 =>
        jq_b2 (X10_keepFault s7) fun v8 s9 =>
        if v8 = 0 then
          jq_b2 (X10_refuse 9 s9) fun v18 s19 =>
          some (v18, s19)
        
        else
          jq_lt (s9 0 7) fun c11 =>
          (X7_takeFrom (c11 + 13) 45 s9).bind fun s13 =>
          jq_lt (s13 0 7) fun c14 =>
          jq_b2 (X10_answer (s13 (c14 + 13) 1) s13) fun v16 s17 =>
          some (v16, s17)
noncomputable def X10_fault (p1 : Int) (σ : jq_M) : Option (Int) :=
  if p1 = 0 then
    some (σ 0 5)
  
  else
    if p1 = 1 then
      some (σ 0 6)
    
    else
      some (-1)
noncomputable def X1_sittersOf_b4 (o : Int) (p1 : Int) (σ : jq_M) (t1 : Int × Int) : Option ((Int × Int) ⊕ (Int)) :=
  if t1.2 < σ o 2 then
    if t1.2 < 5 then
      (jq_ld σ p1 5 t1.2).bind fun v2 =>
      if v2 = (-1) then
        jq_lt (jq_w (t1.2 + 1)) fun v3 =>
        some (.inl (t1.1, v3))
      
      else
        jq_lt (jq_or t1.1 (jq_shl 1 t1.2)) fun v4 =>
        jq_lt (jq_w (t1.2 + 1)) fun v5 =>
        some (.inl (v4, v5))
    
    else
      some (.inr t1.1)
  
  else
    some (.inr t1.1)
noncomputable def X1_sittersOf (o : Int) (p1 : Int) (σ : jq_M) : Option (Int) :=
  (jq_lp (X1_sittersOf_b4 o p1 σ) (0, 0)).bind (fun e6 =>
    some e6
  )
noncomputable def X1_isWish (o : Int) (p1 : Int) (σ : jq_M) : Option (Int) :=
  if p1 < 0 then
    some 0
  
  else
    if p1 < σ o 3 then
      if p1 < 20 then
        some 1
      
      else
        some 0
    
    else
      some 0
noncomputable def X1_seatIn (p0 : Int) (p1 : Int) (σ : jq_M) : Option (Int) :=
  if p1 < 0 then
    some (-1)
  
  else
    if p1 < 5 then
      (jq_ld σ p0 5 p1).bind fun v1 =>
      some v1
    
    else
      some (-1)
noncomputable def X1_nextTo (o : Int) (p1 : Int) (p2 : Int) (σ : jq_M) : Option (Int) :=
  if p1 = (-1) then
    some 0
  
  else
    if p2 = (-1) then
      some 0
    
    else
      jq_lt (jq_abs (jq_w (p1 - p2))) fun v1 =>
      if v1 = 1 then
        some 1
      
      else
        if v1 = jq_w ((σ o 0) - 1) then
          some 1
        
        else
          some 0
noncomputable def X1_opposite (o : Int) (p1 : Int) (p2 : Int) (σ : jq_M) : Option (Int) :=
  if p1 = (-1) then
    some 0
  
  else
    if p2 = (-1) then
      some 0
    
    else
      if jq_w (2 * (jq_abs (jq_w (p1 - p2)))) = σ o 0 then
        some 1
      
      else
        some 0
noncomputable def X1_isMet_j22 (o : Int) (p1 : Int) (p2 : Int) (σ : jq_M) (j3 : Int) : Option (Int) :=
  if j3 = (-1) then
    some 0
  
  else
    (jq_ld σ (o + 5) 20 p1).bind fun v4 =>
    if v4 = 2 then
      (X10_holds (σ o 1) j3 σ).bind fun v12 =>
      some v12
    
    else
      (jq_ld σ (o + 6) 20 p1).bind fun v5 =>
      (X1_seatIn p2 v5 σ).bind fun v6 =>
      (jq_ld σ (o + 5) 20 p1).bind fun v7 =>
      if v7 = 0 then
        (X1_nextTo o j3 v6 σ).bind fun v10 =>
        some v10
      
      else
        (X1_opposite o j3 v6 σ).bind fun v8 =>
        some v8
noncomputable def X1_isMet (o : Int) (p1 : Int) (p2 : Int) (σ : jq_M) : Option (Int) :=
  (X1_isWish o p1 σ).bind fun v1 =>
  if v1 = 0 then
    X1_isMet_j22 o p1 p2 σ (-1)
  
  else
    (jq_ld σ (o + 4) 20 p1).bind fun v14 =>
    (X1_seatIn p2 v14 σ).bind fun v15 =>
    X1_isMet_j22 o p1 p2 σ v15
noncomputable def X1_isParty (o : Int) (p1 : Int) (σ : jq_M) : Option (Int) :=
  if p1 < 0 then
    some 0
  
  else
    if p1 < σ o 2 then
      if p1 < 5 then
        some 1
      
      else
        some 0
    
    else
      some 0
noncomputable def X1_weigh_b2 (o : Int) (t1 : Int × jq_M) : Option ((Int × jq_M) ⊕ (jq_M)) :=
  if t1.1 < 5 then
    (jq_sa t1.2 (o + 19) 5 t1.1 0).bind fun s2 =>
    jq_lt (jq_w (t1.1 + 1)) fun v3 =>
    some (.inl (v3, s2))
  
  else
    some (.inr t1.2)
noncomputable def X1_weigh_b26 (o : Int) (p1 : Int) (t5 : Int × jq_M) : Option ((Int × jq_M) ⊕ (jq_M)) :=
  if t5.1 < t5.2 o 3 then
    if t5.1 < 20 then
      (jq_ld t5.2 (o + 4) 20 t5.1).bind fun v6 =>
      (X1_isMet o t5.1 p1 t5.2).bind fun v7 =>
      if v7 = 0 then
        jq_lt (jq_w (t5.1 + 1)) fun v9 =>
        some (.inl (v9, t5.2))
      
      else
        (X1_isParty o v6 t5.2).bind fun v10 =>
        if v10 = 0 then
          jq_lt (jq_w (t5.1 + 1)) fun v12 =>
          some (.inl (v12, t5.2))
        
        else
          (jq_ld t5.2 (o + 19) 5 v6).bind fun v13 =>
          (jq_ld t5.2 (o + 7) 20 t5.1).bind fun v14 =>
          (jq_sa t5.2 (o + 19) 5 v6 (jq_w (v13 + v14))).bind fun s15 =>
          jq_lt (jq_w (t5.1 + 1)) fun v16 =>
          some (.inl (v16, s15))
    
    else
      some (.inr t5.2)
  
  else
    some (.inr t5.2)
noncomputable def X1_weigh (o : Int) (p1 : Int) (σ : jq_M) : Option (jq_M) :=
  (jq_lp (X1_weigh_b2 o) (0, σ)).bind (fun e4 =>
    (jq_lp (X1_weigh_b26 o p1) (0, e4)).bind (fun e17 =>
      some e17
    )
  )
noncomputable def X1_signersOf_b9 (o : Int) (s1 : jq_M) (t2 : Int × Int) : Option ((Int × Int) ⊕ (Int)) :=
  if t2.2 < s1 o 2 then
    if t2.2 < 5 then
      (jq_ld s1 (o + 19) 5 t2.2).bind fun v3 =>
      (jq_ld s1 (o + 2) 5 t2.2).bind fun v4 =>
      if v3 < v4 then
        jq_lt (jq_w (t2.2 + 1)) fun v5 =>
        some (.inl (t2.1, v5))
      
      else
        jq_lt (jq_or t2.1 (jq_shl 1 t2.2)) fun v6 =>
        jq_lt (jq_w (t2.2 + 1)) fun v7 =>
        some (.inl (v6, v7))
    
    else
      some (.inr t2.1)
  
  else
    some (.inr t2.1)
noncomputable def X1_signersOf (o : Int) (p1 : Int) (σ : jq_M) : Option (Int × jq_M) :=
  (X1_weigh o p1 σ).bind fun s1 =>
  (jq_lp (X1_signersOf_b9 o s1) (0, 0)).bind (fun e8 =>
    some (e8, s1)
  )
noncomputable def X1_isReady (o : Int) (p1 : Int) (σ : jq_M) : Option (Int) :=
  if p1 < 0 then
    some 0
  
  else
    if p1 < 8 then
      (jq_ld σ (o + 11) 8 p1).bind fun v1 =>
      (jq_ld σ (o + 11) 8 p1).bind fun v2 =>
      if jq_and (σ o 5) (jq_or (jq_shl 1 p1) v1) = v2 then
        some 1
      
      else
        some 0
    
    else
      some 0
noncomputable def X1_readyArticles_b4 (o : Int) (σ : jq_M) (t1 : Int × Int) : Option ((Int × Int) ⊕ (Int)) :=
  if t1.2 < σ o 4 then
    (X1_isReady o t1.2 σ).bind fun v2 =>
    if v2 = 0 then
      jq_lt (jq_w (t1.2 + 1)) fun v4 =>
      some (.inl (t1.1, v4))
    
    else
      jq_lt (jq_or t1.1 (jq_shl 1 t1.2)) fun v5 =>
      jq_lt (jq_w (t1.2 + 1)) fun v6 =>
      some (.inl (v5, v6))
  
  else
    some (.inr t1.1)
noncomputable def X1_readyArticles (o : Int) (σ : jq_M) : Option (Int) :=
  (jq_lp (X1_readyArticles_b4 o σ) (0, 0)).bind (fun e7 =>
    some e7
  )
noncomputable def X10_told (p1 : Int) (σ : jq_M) : Option (Int × jq_M) :=
  if p1 = 0 then
    jq_lt (σ 0 7) fun c2 =>
    jq_b2 (X10_answer (σ c2 0) σ) fun v4 s5 =>
    some (v4, s5)
  
  else
    if p1 = 1 then
      jq_lt (σ 0 7) fun c7 =>
      jq_b2 (X10_answer (σ c7 2) σ) fun v9 s10 =>
      some (v9, s10)
    
    else
      if p1 = 2 then
        jq_lt (σ 0 7) fun c12 =>
        jq_b2 (X10_answer (σ c12 3) σ) fun v14 s15 =>
        some (v14, s15)
      
      else
        if p1 = 3 then
          jq_lt (σ 0 7) fun c17 =>
          jq_b2 (X10_answer (σ c17 4) σ) fun v19 s20 =>
          some (v19, s20)
        
        else
          if p1 = 4 then
            jq_lt (σ 0 7) fun c22 =>
            jq_b2 (X10_answer (σ c22 6) σ) fun v24 s25 =>
            some (v24, s25)
          
          else
            if p1 = 5 then
              jq_lt (σ 0 7) fun c27 =>
              jq_b2 (X10_answer (σ c27 1) σ) fun v29 s30 =>
              some (v29, s30)
            
            else
              if p1 = 6 then
                jq_lt (σ 0 7) fun c32 =>
                jq_lt (σ 0 7) fun c34 =>
                (X1_sittersOf c32 (c34 + 3) σ).bind fun v36 =>
                jq_b2 (X10_answer v36 σ) fun v37 s38 =>
                some (v37, s38)
              
              else
                if p1 = 7 then
                  jq_lt (σ 0 7) fun c40 =>
                  jq_lt (σ 0 7) fun c42 =>
                  jq_b2 (X1_signersOf c40 (c42 + 3) σ) fun v44 s45 =>
                  jq_b2 (X10_answer v44 s45) fun v46 s47 =>
                  some (v46, s47)
                
                else
                  if p1 = 8 then
                    jq_lt (σ 0 7) fun c49 =>
                    jq_b2 (X10_answer (σ c49 5) σ) fun v51 s52 =>
                    some (v51, s52)
                  
                  else
                    if p1 = 9 then
                      jq_lt (σ 0 7) fun c54 =>
                      (X1_readyArticles c54 σ).bind fun v56 =>
                      jq_b2 (X10_answer v56 σ) fun v57 s58 =>
                      some (v57, s58)
                    
                    else
                      jq_b2 (X10_refuse 1 σ) fun v59 s60 =>
                      some (v59, s60)
noncomputable def X1_isPlace (o : Int) (p1 : Int) (σ : jq_M) : Option (Int) :=
  if p1 < 0 then
    some 0
  
  else
    if p1 < σ o 0 then
      some 1
    
    else
      some 0
noncomputable def X10_answerOrNone (p1 : Int) (σ : jq_M) : Option (Int × jq_M) :=
  if p1 = (-1) then
    jq_b2 (X10_refuse 6 σ) fun v3 s4 =>
    some (v3, s4)
  
  else
    jq_b2 (X10_answer p1 σ) fun v1 s2 =>
    some (v1, s2)
noncomputable def X10_who (p1 : Int) (σ : jq_M) : Option (Int × jq_M) :=
  jq_lt (σ 0 7) fun c1 =>
  (X1_isPlace c1 p1 σ).bind fun v3 =>
  if v3 = 0 then
    jq_b2 (X10_refuse 1 σ) fun v12 s13 =>
    some (v12, s13)
  
  else
    jq_lt (σ 0 7) fun c5 =>
    jq_lt (σ 0 7) fun c7 =>
    (X1_sitterAt c5 p1 (c7 + 3) σ).bind fun v9 =>
    jq_b2 (X10_answerOrNone v9 σ) fun v10 s11 =>
    some (v10, s11)
noncomputable def X10_placeOf (p1 : Int) (σ : jq_M) : Option (Int × jq_M) :=
  jq_lt (σ 0 7) fun c1 =>
  (X1_isParty c1 p1 σ).bind fun v3 =>
  if v3 = 0 then
    jq_b2 (X10_refuse 1 σ) fun v10 s11 =>
    some (v10, s11)
  
  else
    jq_lt (σ 0 7) fun c5 =>
    (jq_ld σ (c5 + 3) 5 p1).bind fun v7 =>
    jq_b2 (X10_answerOrNone v7 σ) fun v8 s9 =>
    some (v8, s9)
noncomputable def X10_least (p1 : Int) (σ : jq_M) : Option (Int × jq_M) :=
  jq_lt (σ 0 7) fun c1 =>
  (X1_isParty c1 p1 σ).bind fun v3 =>
  if v3 = 0 then
    jq_b2 (X10_refuse 1 σ) fun v10 s11 =>
    some (v10, s11)
  
  else
    jq_lt (σ 0 7) fun c5 =>
    (jq_ld σ (c5 + 2) 5 p1).bind fun v7 =>
    jq_b2 (X10_answer v7 σ) fun v8 s9 =>
    some (v8, s9)
noncomputable def X10_wish_j20  (s5 : jq_M) : Option (Int × jq_M) :=
  jq_b2 (X10_refuse 1 s5) fun v6 s7 =>
  some (v6, s7)
noncomputable def X10_wish (p1 : Int) (p2 : Int) (σ : jq_M) : Option (Int × jq_M) :=
  jq_lt (σ 0 7) fun c1 =>
  (X1_isWish c1 p1 σ).bind fun v3 =>
  if v3 = 0 then
    X10_wish_j20 σ
  
  else
    (X10_within p2 0 3 σ).bind fun v8 =>
    if v8 = 0 then
      X10_wish_j20 σ
    
    else
      if p2 = 0 then
        jq_lt (σ 0 7) fun c11 =>
        (jq_ld σ (c11 + 4) 20 p1).bind fun v13 =>
        jq_b2 (X10_answer v13 σ) fun v14 s15 =>
        some (v14, s15)
      
      else
        if p2 = 1 then
          jq_lt (σ 0 7) fun c17 =>
          (jq_ld σ (c17 + 5) 20 p1).bind fun v19 =>
          jq_b2 (X10_answer v19 σ) fun v20 s21 =>
          some (v20, s21)
        
        else
          if p2 = 2 then
            jq_lt (σ 0 7) fun c23 =>
            (jq_ld σ (c23 + 6) 20 p1).bind fun v25 =>
            jq_b2 (X10_answerOrNone v25 σ) fun v26 s27 =>
            some (v26, s27)
          
          else
            jq_lt (σ 0 7) fun c28 =>
            (jq_ld σ (c28 + 7) 20 p1).bind fun v30 =>
            jq_b2 (X10_answer v30 σ) fun v31 s32 =>
            some (v31, s32)
noncomputable def X1_isArticle (o : Int) (p1 : Int) (σ : jq_M) : Option (Int) :=
  if p1 < 0 then
    some 0
  
  else
    if p1 < σ o 4 then
      if p1 < 8 then
        some 1
      
      else
        some 0
    
    else
      some 0
noncomputable def X1_isAgreed (o : Int) (p1 : Int) (σ : jq_M) : Option (Int) :=
  (X10_holds (σ o 5) p1 σ).bind fun v1 =>
  some v1
noncomputable def X10_asNumber (p0 : Int) (σ : jq_M) : Option (Int) :=
  if p0 = 0 then
    some 0
  
  else
    some 1
noncomputable def X10_article_j20  (s5 : jq_M) : Option (Int × jq_M) :=
  jq_b2 (X10_refuse 1 s5) fun v6 s7 =>
  some (v6, s7)
noncomputable def X10_article (p1 : Int) (p2 : Int) (σ : jq_M) : Option (Int × jq_M) :=
  jq_lt (σ 0 7) fun c1 =>
  (X1_isArticle c1 p1 σ).bind fun v3 =>
  if v3 = 0 then
    X10_article_j20 σ
  
  else
    (X10_within p2 0 4 σ).bind fun v8 =>
    if v8 = 0 then
      X10_article_j20 σ
    
    else
      if p2 = 0 then
        jq_lt (σ 0 7) fun c11 =>
        (jq_ld σ (c11 + 9) 8 p1).bind fun v13 =>
        jq_b2 (X10_answer v13 σ) fun v14 s15 =>
        some (v14, s15)
      
      else
        if p2 = 1 then
          jq_lt (σ 0 7) fun c17 =>
          (jq_ld σ (c17 + 10) 8 p1).bind fun v19 =>
          jq_b2 (X10_answer v19 σ) fun v20 s21 =>
          some (v20, s21)
        
        else
          if p2 = 2 then
            jq_lt (σ 0 7) fun c23 =>
            (jq_ld σ (c23 + 11) 8 p1).bind fun v25 =>
            jq_b2 (X10_answer v25 σ) fun v26 s27 =>
            some (v26, s27)
          
          else
            if p2 = 3 then
              jq_lt (σ 0 7) fun c29 =>
              (jq_ld σ (c29 + 12) 8 p1).bind fun v31 =>
              jq_b2 (X10_answer v31 σ) fun v32 s33 =>
              some (v32, s33)
            
            else
              jq_lt (σ 0 7) fun c34 =>
              (X1_isAgreed c34 p1 σ).bind fun v36 =>
              (X10_asNumber v36 σ).bind fun v38 =>
              jq_b2 (X10_answer v38 σ) fun v39 s40 =>
              some (v39, s40)
noncomputable def X10_areTwo (p1 : Int) (p2 : Int) (σ : jq_M) : Option (Int) :=
  jq_lt (σ 0 7) fun c1 =>
  (X1_isParty c1 p1 σ).bind fun v3 =>
  if v3 = 0 then
    some 0
  
  else
    jq_lt (σ 0 7) fun c5 =>
    (X1_isParty c5 p2 σ).bind fun v7 =>
    if v7 = 0 then
      some 0
    
    else
      if p1 = p2 then
        some 0
      
      else
        some 1
noncomputable def X10_beside (p1 : Int) (p2 : Int) (σ : jq_M) : Option (Int × jq_M) :=
  (X10_areTwo p1 p2 σ).bind fun v1 =>
  if v1 = 0 then
    jq_b2 (X10_refuse 1 σ) fun v16 s17 =>
    some (v16, s17)
  
  else
    jq_lt (σ 0 7) fun c3 =>
    jq_lt (σ 0 7) fun c5 =>
    (jq_ld σ (c5 + 3) 5 p1).bind fun v7 =>
    jq_lt (σ 0 7) fun c8 =>
    (jq_ld σ (c8 + 3) 5 p2).bind fun v10 =>
    (X1_nextTo c3 v7 v10 σ).bind fun v11 =>
    (X10_asNumber v11 σ).bind fun v13 =>
    jq_b2 (X10_answer v13 σ) fun v14 s15 =>
    some (v14, s15)
noncomputable def X10_facing (p1 : Int) (p2 : Int) (σ : jq_M) : Option (Int × jq_M) :=
  (X10_areTwo p1 p2 σ).bind fun v1 =>
  if v1 = 0 then
    jq_b2 (X10_refuse 1 σ) fun v16 s17 =>
    some (v16, s17)
  
  else
    jq_lt (σ 0 7) fun c3 =>
    jq_lt (σ 0 7) fun c5 =>
    (jq_ld σ (c5 + 3) 5 p1).bind fun v7 =>
    jq_lt (σ 0 7) fun c8 =>
    (jq_ld σ (c8 + 3) 5 p2).bind fun v10 =>
    (X1_opposite c3 v7 v10 σ).bind fun v11 =>
    (X10_asNumber v11 σ).bind fun v13 =>
    jq_b2 (X10_answer v13 σ) fun v14 s15 =>
    some (v14, s15)
noncomputable def X1_worthTo_b5 (o : Int) (p1 : Int) (p2 : Int) (σ : jq_M) (t1 : Int × Int) : Option ((Int × Int) ⊕ (Int)) :=
  if t1.2 < σ o 3 then
    if t1.2 < 20 then
      (jq_ld σ (o + 4) 20 t1.2).bind fun v2 =>
      if v2 = p1 then
        (X1_isMet o t1.2 p2 σ).bind fun v4 =>
        if v4 = 0 then
          jq_lt (jq_w (t1.2 + 1)) fun v6 =>
          some (.inl (t1.1, v6))
        
        else
          (jq_ld σ (o + 7) 20 t1.2).bind fun v7 =>
          jq_lt (jq_w (t1.1 + v7)) fun v8 =>
          jq_lt (jq_w (t1.2 + 1)) fun v9 =>
          some (.inl (v8, v9))
      
      else
        jq_lt (jq_w (t1.2 + 1)) fun v3 =>
        some (.inl (t1.1, v3))
    
    else
      some (.inr t1.1)
  
  else
    some (.inr t1.1)
noncomputable def X1_worthTo (o : Int) (p1 : Int) (p2 : Int) (σ : jq_M) : Option (Int) :=
  (jq_lp (X1_worthTo_b5 o p1 p2 σ) (0, 0)).bind (fun e10 =>
    some e10
  )
noncomputable def X10_worth (p1 : Int) (σ : jq_M) : Option (Int × jq_M) :=
  jq_lt (σ 0 7) fun c1 =>
  (X1_isParty c1 p1 σ).bind fun v3 =>
  if v3 = 0 then
    jq_b2 (X10_refuse 1 σ) fun v12 s13 =>
    some (v12, s13)
  
  else
    jq_lt (σ 0 7) fun c5 =>
    jq_lt (σ 0 7) fun c7 =>
    (X1_worthTo c5 p1 (c7 + 3) σ).bind fun v9 =>
    jq_b2 (X10_answer v9 σ) fun v10 s11 =>
    some (v10, s11)
noncomputable def X1_worthOfAll_b4 (o : Int) (p1 : Int) (σ : jq_M) (t1 : Int × Int) : Option ((Int × Int) ⊕ (Int)) :=
  if t1.2 < σ o 3 then
    if t1.2 < 20 then
      (X1_isMet o t1.2 p1 σ).bind fun v2 =>
      if v2 = 0 then
        jq_lt (jq_w (t1.2 + 1)) fun v4 =>
        some (.inl (t1.1, v4))
      
      else
        (jq_ld σ (o + 7) 20 t1.2).bind fun v5 =>
        jq_lt (jq_w (t1.1 + v5)) fun v6 =>
        jq_lt (jq_w (t1.2 + 1)) fun v7 =>
        some (.inl (v6, v7))
    
    else
      some (.inr t1.1)
  
  else
    some (.inr t1.1)
noncomputable def X1_worthOfAll (o : Int) (p1 : Int) (σ : jq_M) : Option (Int) :=
  (jq_lp (X1_worthOfAll_b4 o p1 σ) (0, 0)).bind (fun e8 =>
    some e8
  )
noncomputable def X10_allWorth (σ : jq_M) : Option (Int × jq_M) :=
  jq_lt (σ 0 7) fun c1 =>
  jq_lt (σ 0 7) fun c3 =>
  (X1_worthOfAll c1 (c3 + 3) σ).bind fun v5 =>
  jq_b2 (X10_answer v5 σ) fun v6 s7 =>
  some (v6, s7)
noncomputable def X1_doesSign (o : Int) (p1 : Int) (p2 : Int) (σ : jq_M) : Option (Int) :=
  (X1_isParty o p1 σ).bind fun v1 =>
  if v1 = 0 then
    some 0
  
  else
    (X1_worthTo o p1 p2 σ).bind fun v3 =>
    (jq_ld σ (o + 2) 5 p1).bind fun v4 =>
    if v3 < v4 then
      some 0
    
    else
      some 1
noncomputable def X10_signs (p1 : Int) (σ : jq_M) : Option (Int × jq_M) :=
  jq_lt (σ 0 7) fun c1 =>
  (X1_isParty c1 p1 σ).bind fun v3 =>
  if v3 = 0 then
    jq_b2 (X10_refuse 1 σ) fun v14 s15 =>
    some (v14, s15)
  
  else
    jq_lt (σ 0 7) fun c5 =>
    jq_lt (σ 0 7) fun c7 =>
    (X1_doesSign c5 p1 (c7 + 3) σ).bind fun v9 =>
    (X10_asNumber v9 σ).bind fun v11 =>
    jq_b2 (X10_answer v11 σ) fun v12 s13 =>
    some (v12, s13)
noncomputable def X1_dearestWish_b7 (o : Int) (p1 : Int) (σ : jq_M) (t1 : Int × Int × Int) : Option ((Int × Int × Int) ⊕ (Int)) :=
  if t1.2.2 < σ o 3 then
    if t1.2.2 < 20 then
      (jq_ld σ (o + 4) 20 t1.2.2).bind fun v2 =>
      if v2 = p1 then
        (jq_ld σ (o + 7) 20 t1.2.2).bind fun v4 =>
        if t1.2.1 < v4 then
          (X1_isMet o t1.2.2 (o + 3) σ).bind fun v6 =>
          if v6 = 0 then
            jq_lt (jq_w (t1.2.2 + 1)) fun v8 =>
            some (.inl (t1.1, t1.2.1, v8))
          
          else
            (jq_ld σ (o + 7) 20 t1.2.2).bind fun v9 =>
            jq_lt (jq_w (t1.2.2 + 1)) fun v10 =>
            some (.inl (t1.2.2, v9, v10))
        
        else
          jq_lt (jq_w (t1.2.2 + 1)) fun v5 =>
          some (.inl (t1.1, t1.2.1, v5))
      
      else
        jq_lt (jq_w (t1.2.2 + 1)) fun v3 =>
        some (.inl (t1.1, t1.2.1, v3))
    
    else
      some (.inr t1.1)
  
  else
    some (.inr t1.1)
noncomputable def X1_dearestWish (o : Int) (p1 : Int) (σ : jq_M) : Option (Int) :=
  (jq_lp (X1_dearestWish_b7 o p1 σ) ((-1), 0, 0)).bind (fun e11 =>
    some e11
  )
noncomputable def X10_dearest (p1 : Int) (σ : jq_M) : Option (Int × jq_M) :=
  jq_lt (σ 0 7) fun c1 =>
  (X1_isParty c1 p1 σ).bind fun v3 =>
  if v3 = 0 then
    jq_b2 (X10_refuse 1 σ) fun v10 s11 =>
    some (v10, s11)
  
  else
    jq_lt (σ 0 7) fun c5 =>
    (X1_dearestWish c5 p1 σ).bind fun v7 =>
    jq_b2 (X10_answerOrNone v7 σ) fun v8 s9 =>
    some (v8, s9)
noncomputable def X1_seatOne (o : Int) (p1 : Int) (p2 : Int) (σ : jq_M) : Option (Int × jq_M) :=
  (X1_sitterAt o p2 (o + 3) σ).bind fun v1 =>
  (X1_isParty o p1 σ).bind fun v2 =>
  if v2 = 0 then
    some (0, σ)
  
  else
    (X1_isPlace o p2 σ).bind fun v4 =>
    if v4 = 0 then
      some (0, σ)
    
    else
      if v1 = (-1) then
        (jq_sa σ (o + 3) 5 p1 p2).bind fun s6 =>
        some (1, s6)
      
      else
        if v1 = p1 then
          (jq_sa σ (o + 3) 5 p1 p2).bind fun s7 =>
          some (1, s7)
        
        else
          some (0, σ)
noncomputable def X10_sit_j22  (s5 : jq_M) : Option (Int × jq_M) :=
  jq_b2 (X10_refuse 1 s5) fun v6 s7 =>
  some (v6, s7)
noncomputable def X10_sit (p1 : Int) (p2 : Int) (σ : jq_M) : Option (Int × jq_M) :=
  jq_lt (σ 0 7) fun c1 =>
  (X1_isParty c1 p1 σ).bind fun v3 =>
  if v3 = 0 then
    X10_sit_j22 σ
  
  else
    jq_lt (σ 0 7) fun c8 =>
    (X1_isPlace c8 p2 σ).bind fun v10 =>
    if v10 = 0 then
      X10_sit_j22 σ
    
    else
      jq_lt (σ 0 7) fun c12 =>
      (jq_ld σ (c12 + 3) 5 p1).bind fun v14 =>
      jq_lt (σ 0 7) fun c15 =>
      jq_b2 (X1_seatOne c15 p1 p2 σ) fun v17 s18 =>
      if v17 = 0 then
        jq_b2 (X10_refuse 7 s18) fun v22 s23 =>
        some (v22, s23)
      
      else
        jq_b2 (X10_answer v14 s18) fun v20 s21 =>
        some (v20, s21)
noncomputable def X1_raiseOne (o : Int) (p1 : Int) (σ : jq_M) : Option (Int × jq_M) :=
  (X1_isParty o p1 σ).bind fun v1 =>
  if v1 = 0 then
    some (0, σ)
  
  else
    (jq_ld σ (o + 3) 5 p1).bind fun v3 =>
    if v3 = (-1) then
      some (0, σ)
    
    else
      (jq_sa σ (o + 3) 5 p1 (-1)).bind fun s4 =>
      some (1, s4)
noncomputable def X10_rise (p1 : Int) (σ : jq_M) : Option (Int × jq_M) :=
  jq_lt (σ 0 7) fun c1 =>
  (X1_isParty c1 p1 σ).bind fun v3 =>
  if v3 = 0 then
    jq_b2 (X10_refuse 1 σ) fun v17 s18 =>
    some (v17, s18)
  
  else
    jq_lt (σ 0 7) fun c5 =>
    (jq_ld σ (c5 + 3) 5 p1).bind fun v7 =>
    jq_lt (σ 0 7) fun c8 =>
    jq_b2 (X1_raiseOne c8 p1 σ) fun v10 s11 =>
    if v10 = 0 then
      jq_b2 (X10_refuse 7 s11) fun v15 s16 =>
      some (v15, s16)
    
    else
      jq_b2 (X10_answer v7 s11) fun v13 s14 =>
      some (v13, s14)
noncomputable def X1_swapTwo_j31 (o : Int) (p1 : Int) (p2 : Int) (p3 : Int) (j3 : Int) (j4 : Int) (s5 : jq_M) : Option (Int × jq_M) :=
  (X1_isParty o p1 s5).bind fun v6 =>
  if v6 = 0 then
    some (0, s5)
  
  else
    (X1_isParty o p2 s5).bind fun v8 =>
    if v8 = 0 then
      some (0, s5)
    
    else
      (jq_sa s5 p3 5 p1 j4).bind fun s10 =>
      (jq_sa s10 p3 5 p2 j3).bind fun s11 =>
      some (1, s11)
noncomputable def X1_swapTwo (o : Int) (p1 : Int) (p2 : Int) (p3 : Int) (σ : jq_M) : Option (Int × jq_M) :=
  (X1_seatIn p3 p1 σ).bind fun v1 =>
  (X1_seatIn p3 p2 σ).bind fun v2 =>
  if p1 = p2 then
    some (0, σ)
  
  else
    if v1 = (-1) then
      if v2 = (-1) then
        some (0, σ)
      
      else
        X1_swapTwo_j31 o p1 p2 p3 v1 v2 σ
    
    else
      X1_swapTwo_j31 o p1 p2 p3 v1 v2 σ
noncomputable def X10_swap (p1 : Int) (p2 : Int) (σ : jq_M) : Option (Int × jq_M) :=
  (X10_areTwo p1 p2 σ).bind fun v1 =>
  if v1 = 0 then
    jq_b2 (X10_deny 1 σ) fun v16 s17 =>
    some (v16, s17)
  
  else
    jq_lt (σ 0 7) fun c3 =>
    jq_lt (σ 0 7) fun c5 =>
    jq_b2 (X1_swapTwo c3 p1 p2 (c5 + 3) σ) fun v7 s8 =>
    if v7 = 0 then
      jq_b2 (X10_deny 7 s8) fun v13 s14 =>
      some (v13, s14)
    
    else
      jq_b2 (X10_grant s8) fun v10 s11 =>
      some (v10, s11)
noncomputable def X1_turnAll_b2 (o : Int) (p1 : Int) (p2 : Int) (t1 : Int × jq_M) : Option ((Int × jq_M) ⊕ (jq_M)) :=
  if t1.1 < t1.2 o 2 then
    if t1.1 < 5 then
      if 0 < t1.2 o 0 then
        (jq_ld t1.2 p2 5 t1.1).bind fun v3 =>
        if v3 = (-1) then
          jq_lt (jq_w (t1.1 + 1)) fun v4 =>
          some (.inl (v4, t1.2))
        
        else
          (jq_ld t1.2 p2 5 t1.1).bind fun v5 =>
          (jq_rem (jq_w (v5 + p1)) (t1.2 o 0)).bind fun v6 =>
          (jq_sa t1.2 p2 5 t1.1 v6).bind fun s7 =>
          jq_lt (jq_w (t1.1 + 1)) fun v8 =>
          some (.inl (v8, s7))
      
      else
        jq_lt (jq_w (t1.1 + 1)) fun v2 =>
        some (.inl (v2, t1.2))
    
    else
      some (.inr t1.2)
  
  else
    some (.inr t1.2)
noncomputable def X1_turnAll (o : Int) (p1 : Int) (p2 : Int) (σ : jq_M) : Option (jq_M) :=
  (jq_lp (X1_turnAll_b2 o p1 p2) (0, σ)).bind (fun e9 =>
    some e9
  )
noncomputable def J6_bitCount_0f7a4 (p0 : Int) (σ : jq_M) : Option (Int) :=
  jq_lt (jq_w (p0 - (jq_and (jq_ushr p0 1) 1431655765))) fun v1 =>
  jq_lt (jq_w ((jq_and v1 858993459) + (jq_and (jq_ushr v1 2) 858993459))) fun v2 =>
  jq_lt (jq_and (jq_w (v2 + (jq_ushr v2 4))) 252645135) fun v3 =>
  jq_lt (jq_w (v3 + (jq_ushr v3 8))) fun v4 =>
  jq_lt (jq_w (v4 + (jq_ushr v4 16))) fun v5 =>
  some (jq_and v5 63)
noncomputable def X10_turn (p1 : Int) (σ : jq_M) : Option (Int × jq_M) :=
  (X10_within p1 0 99 σ).bind fun v1 =>
  if v1 = 0 then
    jq_b2 (X10_refuse 1 σ) fun v16 s17 =>
    some (v16, s17)
  
  else
    jq_lt (σ 0 7) fun c3 =>
    jq_lt (σ 0 7) fun c5 =>
    (X1_turnAll c3 p1 (c5 + 3) σ).bind fun s7 =>
    jq_lt (s7 0 7) fun c8 =>
    jq_lt (s7 0 7) fun c10 =>
    (X1_sittersOf c8 (c10 + 3) s7).bind fun v12 =>
    (J6_bitCount_0f7a4 v12 s7).bind fun v13 =>
    jq_b2 (X10_answer v13 s7) fun v14 s15 =>
    some (v14, s15)
noncomputable def X1_workAt (o : Int) (p1 : Int) (σ : jq_M) : Option (jq_M) :=
  if p1 < 0 then
    some σ
  
  else
    if p1 < 8 then
      (jq_ld σ (o + 12) 8 p1).bind fun v1 =>
      (jq_sa σ (o + 12) 8 p1 (jq_w (v1 + 1))).bind fun s2 =>
      (jq_ld s2 (o + 12) 8 p1).bind fun v3 =>
      (jq_ld s2 (o + 9) 8 p1).bind fun v4 =>
      if v3 < v4 then
        some s2
      
      else
        jq_lt (jq_st s2 o 5 (jq_or (s2 o 5) (jq_shl 1 p1))) fun s5 =>
        some s5
    
    else
      some σ
noncomputable def X1_passOneDay_b7 (o : Int) (σ : jq_M) (t2 : Int) : Option ((Int) ⊕ ((Int) ⊕ (Unit))) :=
  if t2 < σ o 4 then
    (X1_isReady o t2 σ).bind fun v3 =>
    if v3 = 0 then
      jq_lt (jq_w (t2 + 1)) fun v5 =>
      some (.inl v5)
    
    else
      some (.inr (.inl t2))
  
  else
    some (.inr (.inr ()))
noncomputable def X1_passOneDay_j37 (o : Int) (j8 : Int) (s9 : jq_M) : Option (Int × jq_M) :=
  jq_lt (jq_st s9 o 6 (jq_w ((s9 o 6) + 1))) fun s10 =>
  if s10 o 5 = j8 then
    some (0, s10)
  
  else
    some (1, s10)
noncomputable def X1_passOneDay (o : Int) (σ : jq_M) : Option (Int × jq_M) :=
  jq_lt (σ o 5) fun v1 =>
  (jq_lp (X1_passOneDay_b7 o σ) 0).bind (Sum.elim (fun e6 =>
    (X1_workAt o e6 σ).bind fun s7 =>
    X1_passOneDay_j37 o v1 s7
  )
    (fun e11 =>
      X1_passOneDay_j37 o v1 σ))
noncomputable def X1_passDays_b4 (o : Int) (p1 : Int) (t1 : Int × Int × jq_M) : Option ((Int × Int × jq_M) ⊕ (Int × jq_M)) :=
  if t1.2.1 < p1 then
    jq_b2 (X1_passOneDay o t1.2.2) fun v2 s3 =>
    jq_lt (jq_w (t1.1 + v2)) fun v4 =>
    jq_lt (jq_w (t1.2.1 + 1)) fun v5 =>
    some (.inl (v4, v5, s3))
  
  else
    some (.inr (t1.1, t1.2.2))
noncomputable def X1_passDays (o : Int) (p1 : Int) (σ : jq_M) : Option (Int × jq_M) :=
  (jq_lp (X1_passDays_b4 o p1) (0, 0, σ)).bind (fun e6 =>
    some (e6.1, e6.2)
  )
noncomputable def X10_day (p1 : Int) (σ : jq_M) : Option (Int × jq_M) :=
  (X10_within p1 1 99 σ).bind fun v1 =>
  if v1 = 0 then
    jq_b2 (X10_refuse 1 σ) fun v13 s14 =>
    some (v13, s14)
  
  else
    jq_lt (σ 0 7) fun c3 =>
    if jq_w (9999 - p1) < σ c3 6 then
      jq_b2 (X10_refuse 4 σ) fun v11 s12 =>
      some (v11, s12)
    
    else
      jq_lt (σ 0 7) fun c5 =>
      jq_b2 (X1_passDays c5 p1 σ) fun v7 s8 =>
      jq_b2 (X10_answer v7 s8) fun v9 s10 =>
      some (v9, s10)
noncomputable def X1_agreeOn (o : Int) (p1 : Int) (σ : jq_M) : Option (Int × jq_M) :=
  (X1_isReady o p1 σ).bind fun v1 =>
  if v1 = 0 then
    some (0, σ)
  
  else
    jq_lt (jq_st σ o 5 (jq_or (σ o 5) (jq_shl 1 p1))) fun s3 =>
    some (1, s3)
noncomputable def X10_agree (p1 : Int) (σ : jq_M) : Option (Int × jq_M) :=
  jq_lt (σ 0 7) fun c1 =>
  (X1_isArticle c1 p1 σ).bind fun v3 =>
  if v3 = 0 then
    jq_b2 (X10_refuse 1 σ) fun v17 s18 =>
    some (v17, s18)
  
  else
    jq_lt (σ 0 7) fun c5 =>
    jq_b2 (X1_agreeOn c5 p1 σ) fun v7 s8 =>
    if v7 = 0 then
      jq_b2 (X10_refuse 7 s8) fun v15 s16 =>
      some (v15, s16)
    
    else
      jq_lt (s8 0 7) fun c10 =>
      (J6_bitCount_0f7a4 (s8 c10 5) s8).bind fun v12 =>
      jq_b2 (X10_answer v12 s8) fun v13 s14 =>
      some (v13, s14)
noncomputable def X1_allFallsOf_b4 (o : Int) (p1 : Int) (σ : jq_M) (t1 : Int × Int) : Option ((Int × Int) ⊕ (Int)) :=
  if t1.2 < σ o 4 then
    if t1.2 < 8 then
      if t1.2 = p1 then
        jq_lt (jq_or t1.1 (jq_shl 1 t1.2)) fun v2 =>
        jq_lt (jq_w (t1.2 + 1)) fun v3 =>
        some (.inl (v2, v3))
      
      else
        (jq_ld σ (o + 11) 8 t1.2).bind fun v4 =>
        if jq_and v4 t1.1 = 0 then
          jq_lt (jq_w (t1.2 + 1)) fun v5 =>
          some (.inl (t1.1, v5))
        
        else
          jq_lt (jq_or t1.1 (jq_shl 1 t1.2)) fun v6 =>
          jq_lt (jq_w (t1.2 + 1)) fun v7 =>
          some (.inl (v6, v7))
    
    else
      some (.inr t1.1)
  
  else
    some (.inr t1.1)
noncomputable def X1_allFallsOf (o : Int) (p1 : Int) (σ : jq_M) : Option (Int) :=
  (jq_lp (X1_allFallsOf_b4 o p1 σ) (0, 0)).bind (fun e8 =>
    some e8
  )
noncomputable def X1_letFall_b23 (o : Int) (v4 : Int) (t5 : Int × jq_M) : Option ((Int × jq_M) ⊕ (jq_M)) :=
  if t5.1 < t5.2 o 4 then
    if t5.1 < 8 then
      (X10_holds v4 t5.1 t5.2).bind fun v6 =>
      if v6 = 0 then
        jq_lt (jq_w (t5.1 + 1)) fun v8 =>
        some (.inl (v8, t5.2))
      
      else
        (jq_sa t5.2 (o + 12) 8 t5.1 0).bind fun s9 =>
        jq_lt (jq_w (t5.1 + 1)) fun v10 =>
        some (.inl (v10, s9))
    
    else
      some (.inr t5.2)
  
  else
    some (.inr t5.2)
noncomputable def X1_letFall_j61 (o : Int) (j12 : Int) (s13 : jq_M) : Option (Int × jq_M) :=
  jq_lt (jq_st s13 o 5 (jq_and (s13 o 5) (jq_xor j12 (-1)))) fun s14 =>
  (J6_bitCount_0f7a4 j12 s14).bind fun v15 =>
  some (v15, s14)
noncomputable def X1_letFall (o : Int) (p1 : Int) (σ : jq_M) : Option (Int × jq_M) :=
  (X1_isAgreed o p1 σ).bind fun v1 =>
  if v1 = 0 then
    some (0, σ)
  
  else
    (X1_allFallsOf o p1 σ).bind fun v3 =>
    jq_lt (jq_and v3 (σ o 5)) fun v4 =>
    (jq_lp (X1_letFall_b23 o v4) (0, σ)).bind (fun e11 =>
      X1_letFall_j61 o v4 e11
    )
noncomputable def X10_withdraw (p1 : Int) (σ : jq_M) : Option (Int × jq_M) :=
  jq_lt (σ 0 7) fun c1 =>
  (X1_isArticle c1 p1 σ).bind fun v3 =>
  if v3 = 0 then
    jq_b2 (X10_refuse 1 σ) fun v13 s14 =>
    some (v13, s14)
  
  else
    jq_lt (σ 0 7) fun c5 =>
    jq_b2 (X1_letFall c5 p1 σ) fun v7 s8 =>
    if v7 = 0 then
      jq_b2 (X10_refuse 7 s8) fun v11 s12 =>
      some (v11, s12)
    
    else
      jq_b2 (X10_answer v7 s8) fun v9 s10 =>
      some (v9, s10)
noncomputable def X10_insist_j21  (s5 : jq_M) : Option (Int × jq_M) :=
  jq_b2 (X10_deny 1 s5) fun v6 s7 =>
  some (v6, s7)
noncomputable def X10_insist (p1 : Int) (p2 : Int) (σ : jq_M) : Option (Int × jq_M) :=
  jq_lt (σ 0 7) fun c1 =>
  (X1_isParty c1 p1 σ).bind fun v3 =>
  if v3 = 0 then
    X10_insist_j21 σ
  
  else
    (X10_within p2 0 50 σ).bind fun v9 =>
    if v9 = 0 then
      X10_insist_j21 σ
    
    else
      jq_lt (σ 0 7) fun c11 =>
      (jq_sa σ (c11 + 2) 5 p1 p2).bind fun s13 =>
      jq_b2 (X10_grant s13) fun v14 s15 =>
      some (v14, s15)
noncomputable def X10_value_j26  (s5 : jq_M) : Option (Int × jq_M) :=
  jq_b2 (X10_deny 1 s5) fun v6 s7 =>
  some (v6, s7)
noncomputable def X10_value (p1 : Int) (p2 : Int) (σ : jq_M) : Option (Int × jq_M) :=
  jq_lt (σ 0 7) fun c1 =>
  (X1_isWish c1 p1 σ).bind fun v3 =>
  if v3 = 0 then
    X10_value_j26 σ
  
  else
    if p2 = 0 then
      X10_value_j26 σ
    
    else
      (X10_within p2 (-9) 9 σ).bind fun v9 =>
      if v9 = 0 then
        X10_value_j26 σ
      
      else
        jq_lt (σ 0 7) fun c11 =>
        (jq_sa σ (c11 + 7) 20 p1 p2).bind fun s13 =>
        jq_b2 (X10_grant s13) fun v14 s15 =>
        some (v14, s15)
noncomputable def X1_isCorner (o : Int) (p1 : Int) (σ : jq_M) : Option (Int) :=
  (X10_holds (σ o 1) p1 σ).bind fun v1 =>
  some v1
noncomputable def X10_carve (p1 : Int) (p2 : Int) (σ : jq_M) : Option (Int × jq_M) :=
  jq_lt (σ 0 7) fun c1 =>
  (X1_isPlace c1 p1 σ).bind fun v3 =>
  if v3 = 0 then
    jq_b2 (X10_deny 1 σ) fun v18 s19 =>
    some (v18, s19)
  
  else
    jq_lt (σ 0 7) fun c5 =>
    (X1_isCorner c5 p1 σ).bind fun v7 =>
    if v7 = p2 then
      jq_b2 (X10_deny 7 σ) fun v15 s16 =>
      some (v15, s16)
    
    else
      jq_lt (σ 0 7) fun c9 =>
      jq_lt (jq_st σ c9 1 (jq_xor (σ c9 1) (jq_shl 1 p1))) fun s11 =>
      jq_b2 (X10_grant s11) fun v12 s13 =>
      some (v12, s13)
noncomputable def X8_count_b13 (p1 : Int) (σ : jq_M) (t1 : Int × Int) : Option ((Int × Int) ⊕ (Int)) :=
  if t1.2 < σ p1 2 then
    jq_lt (jq_w (t1.1 * (jq_w ((σ p1 0) - t1.2)))) fun v2 =>
    jq_lt (jq_w (t1.2 + 1)) fun v3 =>
    some (.inl (v2, v3))
  
  else
    some (.inr t1.1)
noncomputable def X8_count (p1 : Int) (σ : jq_M) : Option (Int) :=
  if σ p1 0 = 0 then
    some 0
  
  else
    (jq_lp (X8_count_b13 p1 σ) (1, 0)).bind (fun e4 =>
      some e4
    )
noncomputable def X10_seatings (σ : jq_M) : Option (Int × jq_M) :=
  jq_lt (σ 0 7) fun c1 =>
  (X8_count c1 σ).bind fun v3 =>
  jq_b2 (X10_answer v3 σ) fun v4 s5 =>
  some (v4, s5)
noncomputable def X8_freeFrom_b2 (p1 : Int) (σ : jq_M) (t1 : Int) : Option ((Int) ⊕ (Int)) :=
  if t1 < 6 then
    (X10_holds p1 t1 σ).bind fun v2 =>
    if v2 = 0 then
      some (.inr t1)
    
    else
      jq_lt (jq_w (t1 + 1)) fun v4 =>
      some (.inl v4)
  
  else
    some (.inr t1)
noncomputable def X8_freeFrom (p0 : Int) (p1 : Int) (σ : jq_M) : Option (Int) :=
  (jq_lp (X8_freeFrom_b2 p1 σ) p0).bind (fun e5 =>
    some e5
  )
noncomputable def X8_fillFrom_b10 (p1 : Int) (t2 : Int × Int × jq_M) : Option ((Int × Int × jq_M) ⊕ (jq_M)) :=
  if t2.2.1 < t2.2.2 p1 2 then
    if t2.2.1 < 5 then
      (X8_freeFrom 0 t2.1 t2.2.2).bind fun v3 =>
      (jq_sa t2.2.2 53 5 t2.2.1 v3).bind fun s4 =>
      (jq_ld s4 53 5 t2.2.1).bind fun v5 =>
      jq_lt (jq_or t2.1 (jq_shl 1 v5)) fun v6 =>
      jq_lt (jq_w (t2.2.1 + 1)) fun v7 =>
      some (.inl (v6, v7, s4))
    
    else
      some (.inr t2.2.2)
  
  else
    some (.inr t2.2.2)
noncomputable def X8_fillFrom (p1 : Int) (p2 : Int) (p3 : Int) (σ : jq_M) : Option (jq_M) :=
  jq_lt (jq_max 0 p2) fun v1 =>
  (jq_lp (X8_fillFrom_b10 p1) (p3, v1, σ)).bind (fun e8 =>
    some e8
  )
noncomputable def X8_begin (p1 : Int) (σ : jq_M) : Option (Int × jq_M) :=
  (X8_fillFrom p1 0 0 σ).bind fun s1 =>
  (X8_count p1 s1).bind fun v2 =>
  some (v2, s1)
noncomputable def X1_allParties (o : Int) (σ : jq_M) : Option (Int) :=
  some (jq_w ((jq_shl 1 (σ o 2)) - 1))
noncomputable def X8_goOn_b4 (p1 : Int) (σ : jq_M) (t1 : Int × Int) : Option ((Int × Int) ⊕ (Int)) :=
  if t1.2 < σ p1 2 then
    if t1.2 < 5 then
      (jq_ld σ 53 5 t1.2).bind fun v2 =>
      jq_lt (jq_or t1.1 (jq_shl 1 v2)) fun v3 =>
      jq_lt (jq_w (t1.2 + 1)) fun v4 =>
      some (.inl (v3, v4))
    
    else
      some (.inr t1.1)
  
  else
    some (.inr t1.1)
noncomputable def X8_goOn_b53 (p1 : Int) (s7 : jq_M) (t9 : Int × Int) : Option ((Int × Int) ⊕ ((Int × Int × Int) ⊕ (Unit))) :=
  if t9.2 < 0 then
    some (.inr (.inr ()))
  
  else
    (jq_ld s7 53 5 t9.2).bind fun v10 =>
    jq_lt (jq_and t9.1 (jq_xor (jq_shl 1 v10) (-1))) fun v11 =>
    (jq_ld s7 53 5 t9.2).bind fun v12 =>
    (X8_freeFrom (jq_w (v12 + 1)) v11 s7).bind fun v13 =>
    if v13 < s7 p1 0 then
      some (.inr (.inl (v11, t9.2, v13)))
    
    else
      jq_lt (jq_w (t9.2 + (-1))) fun v14 =>
      some (.inl (v11, v14))
noncomputable def X8_goOn_j38 (p1 : Int) (j6 : Int) (s7 : jq_M) : Option (jq_M) :=
  jq_lt (jq_w ((jq_min (s7 p1 2) 5) - 1)) fun v8 =>
  (jq_lp (X8_goOn_b53 p1 s7) (j6, v8)).bind (Sum.elim (fun e15 =>
    (jq_sa s7 53 5 e15.2.1 e15.2.2).bind fun s16 =>
    (X8_fillFrom p1 (jq_w (e15.2.1 + 1)) (jq_or e15.1 (jq_shl 1 e15.2.2)) s16).bind fun s17 =>
    some s17
  )
    (fun e18 =>
      some s7))
noncomputable def X8_goOn (p1 : Int) (σ : jq_M) : Option (jq_M) :=
  (jq_lp (X8_goOn_b4 p1 σ) (0, 0)).bind (fun e5 =>
    X8_goOn_j38 p1 e5 σ
  )
noncomputable def X8_countGood_j35 (p1 : Int) (v1 : Int) (j7 : Int) (j8 : Int) (s9 : jq_M) : Option ((Int × Int × jq_M) ⊕ (Int × jq_M)) :=
  (X8_goOn p1 s9).bind fun s10 =>
  jq_lt (jq_w (j8 + 1)) fun v11 =>
  some (.inl (j7, v11, s10))
noncomputable def X8_countGood_b11 (p1 : Int) (v1 : Int) (t3 : Int × Int × jq_M) : Option ((Int × Int × jq_M) ⊕ (Int × jq_M)) :=
  if t3.2.1 < v1 then
    jq_b2 (X1_signersOf p1 53 t3.2.2) fun v4 s5 =>
    (X1_allParties p1 s5).bind fun v6 =>
    if v4 = v6 then
      jq_lt (jq_w (t3.1 + 1)) fun v12 =>
      X8_countGood_j35 p1 v1 v12 t3.2.1 s5
    
    else
      X8_countGood_j35 p1 v1 t3.1 t3.2.1 s5
  
  else
    some (.inr (t3.1, t3.2.2))
noncomputable def X8_countGood (p1 : Int) (σ : jq_M) : Option (Int × jq_M) :=
  jq_b2 (X8_begin p1 σ) fun v1 s2 =>
  (jq_lp (X8_countGood_b11 p1 v1) (0, 0, s2)).bind (fun e13 =>
    some (e13.1, e13.2)
  )
noncomputable def X10_good (σ : jq_M) : Option (Int × jq_M) :=
  jq_lt (σ 0 7) fun c1 =>
  jq_b2 (X8_countGood c1 σ) fun v3 s4 =>
  jq_b2 (X10_answer v3 s4) fun v5 s6 =>
  some (v5, s6)
noncomputable def X8_numberOf_b7 (p0 : Int) (p1 : Int) (σ : jq_M) (t1 : Int × Int × Int) : Option ((Int × Int × Int) ⊕ (Int)) :=
  if t1.2.2 < σ p0 2 then
    if t1.2.2 < 5 then
      (jq_ld σ p1 5 t1.2.2).bind fun v2 =>
      jq_lt (jq_and t1.2.1 (jq_w ((jq_shl 1 v2) - 1))) fun v3 =>
      (jq_ld σ p1 5 t1.2.2).bind fun v4 =>
      (J6_bitCount_0f7a4 v3 σ).bind fun v5 =>
      jq_lt (jq_w ((jq_w ((jq_w (t1.1 * (jq_w ((σ p0 0) - t1.2.2)))) + v4)) - v5)) fun v6 =>
      (jq_ld σ p1 5 t1.2.2).bind fun v7 =>
      jq_lt (jq_or t1.2.1 (jq_shl 1 v7)) fun v8 =>
      jq_lt (jq_w (t1.2.2 + 1)) fun v9 =>
      some (.inl (v6, v8, v9))
    
    else
      some (.inr t1.1)
  
  else
    some (.inr t1.1)
noncomputable def X8_numberOf (p0 : Int) (p1 : Int) (σ : jq_M) : Option (Int) :=
  (jq_lp (X8_numberOf_b7 p0 p1 σ) (0, 0, 0)).bind (fun e10 =>
    some e10
  )
noncomputable def X8_isGoodAhead_b3 (p1 : Int) (p3 : Int) (t1 : Int × jq_M) : Option ((Int × jq_M) ⊕ (jq_M)) :=
  if t1.1 < t1.2 p1 2 then
    if t1.1 < 5 then
      if p3 = 0 then
        (jq_ld t1.2 53 5 t1.1).bind fun v2 =>
        (jq_sa t1.2 55 5 t1.1 v2).bind fun s3 =>
        jq_lt (jq_w (t1.1 + 1)) fun v4 =>
        some (.inl (v4, s3))
      
      else
        (jq_ld t1.2 53 5 t1.1).bind fun v5 =>
        (jq_sa t1.2 55 5 t1.1 (jq_w ((jq_w ((t1.2 p1 0) - 1)) - v5))).bind fun s6 =>
        jq_lt (jq_w (t1.1 + 1)) fun v7 =>
        some (.inl (v7, s6))
    
    else
      some (.inr t1.2)
  
  else
    some (.inr t1.2)
noncomputable def X8_isGoodAhead_j59 (p1 : Int) (p2 : Int) (p4 : Int) (s9 : jq_M) : Option (Int × jq_M) :=
  (X1_turnAll p1 p2 55 s9).bind fun s10 =>
  (X8_numberOf p1 55 s10).bind fun v11 =>
  if v11 < 0 then
    some (0, s10)
  
  else
    if v11 < p4 then
      if v11 < 720 then
        (jq_ld s10 56 720 v11).bind fun v12 =>
        (X1_allParties p1 s10).bind fun v13 =>
        if v12 = v13 then
          some (1, s10)
        
        else
          some (0, s10)
      
      else
        some (0, s10)
    
    else
      some (0, s10)
noncomputable def X8_isGoodAhead (p1 : Int) (p2 : Int) (p3 : Int) (p4 : Int) (σ : jq_M) : Option (Int × jq_M) :=
  (jq_lp (X8_isGoodAhead_b3 p1 p3) (0, σ)).bind (fun e8 =>
    X8_isGoodAhead_j59 p1 p2 p4 e8
  )
noncomputable def X8_isLikeAnEarlierGood_b2 (p1 : Int) (p2 : Int) (t1 : Int × jq_M) : Option ((Int × jq_M) ⊕ ((jq_M) ⊕ (jq_M))) :=
  if t1.1 < t1.2 p1 0 then
    jq_b2 (X8_isGoodAhead p1 t1.1 0 p2 t1.2) fun v2 s3 =>
    if v2 = 0 then
      jq_b2 (X8_isGoodAhead p1 t1.1 1 p2 s3) fun v5 s6 =>
      if v5 = 0 then
        jq_lt (jq_w (t1.1 + 1)) fun v8 =>
        some (.inl (v8, s6))
      
      else
        some (.inr (.inl s6))
    
    else
      some (.inr (.inl s3))
  
  else
    some (.inr (.inr t1.2))
noncomputable def X8_isLikeAnEarlierGood (p1 : Int) (p2 : Int) (σ : jq_M) : Option (Int × jq_M) :=
  (jq_lp (X8_isLikeAnEarlierGood_b2 p1 p2) (0, σ)).bind (Sum.elim (fun e9 =>
    some (1, e9)
  )
    (fun e10 =>
      some (0, e10)))
noncomputable def X8_countClasses_b8 (p1 : Int) (v1 : Int) (t3 : Int × jq_M) : Option ((Int × jq_M) ⊕ (jq_M)) :=
  if t3.1 < v1 then
    if t3.1 < 720 then
      jq_b2 (X1_signersOf p1 53 t3.2) fun v4 s5 =>
      (jq_sa s5 56 720 t3.1 v4).bind fun s6 =>
      (X8_goOn p1 s6).bind fun s7 =>
      jq_lt (jq_w (t3.1 + 1)) fun v8 =>
      some (.inl (v8, s7))
    
    else
      some (.inr t3.2)
  
  else
    some (.inr t3.2)
noncomputable def X8_countClasses_j101 (p1 : Int) (j10 : Int) (j17 : Int) (j18 : Int) (s19 : jq_M) : Option ((Int × Int × jq_M) ⊕ (Int × jq_M)) :=
  (X8_goOn p1 s19).bind fun s20 =>
  jq_lt (jq_w (j18 + 1)) fun v21 =>
  some (.inl (j17, v21, s20))
noncomputable def X8_countClasses_b58 (p1 : Int) (j10 : Int) (t14 : Int × Int × jq_M) : Option ((Int × Int × jq_M) ⊕ (Int × jq_M)) :=
  if t14.2.1 < j10 then
    if t14.2.1 < 720 then
      (jq_ld t14.2.2 56 720 t14.2.1).bind fun v15 =>
      (X1_allParties p1 t14.2.2).bind fun v16 =>
      if v15 = v16 then
        jq_b2 (X8_isLikeAnEarlierGood p1 t14.2.1 t14.2.2) fun v22 s23 =>
        if v22 = 0 then
          jq_lt (jq_w (t14.1 + 1)) fun v25 =>
          X8_countClasses_j101 p1 j10 v25 t14.2.1 s23
        
        else
          X8_countClasses_j101 p1 j10 t14.1 t14.2.1 s23
      
      else
        X8_countClasses_j101 p1 j10 t14.1 t14.2.1 t14.2.2
    
    else
      some (.inr (t14.1, t14.2.2))
  
  else
    some (.inr (t14.1, t14.2.2))
noncomputable def X8_countClasses_j47 (p1 : Int) (j10 : Int) (s11 : jq_M) : Option (Int × jq_M) :=
  jq_b2 (X8_begin p1 s11) fun v12 s13 =>
  (jq_lp (X8_countClasses_b58 p1 j10) (0, 0, s13)).bind (fun e26 =>
    some (e26.1, e26.2)
  )
noncomputable def X8_countClasses (p1 : Int) (σ : jq_M) : Option (Int × jq_M) :=
  jq_b2 (X8_begin p1 σ) fun v1 s2 =>
  (jq_lp (X8_countClasses_b8 p1 v1) (0, s2)).bind (fun e9 =>
    X8_countClasses_j47 p1 v1 e9
  )
noncomputable def X10_classes (σ : jq_M) : Option (Int × jq_M) :=
  jq_lt (σ 0 7) fun c1 =>
  jq_b2 (X8_countClasses c1 σ) fun v3 s4 =>
  jq_b2 (X10_answer v3 s4) fun v5 s6 =>
  some (v5, s6)
noncomputable def X8_findGood_b8 (p1 : Int) (v1 : Int) (t3 : Int × jq_M) : Option ((Int × jq_M) ⊕ ((jq_M) ⊕ (jq_M))) :=
  if t3.1 < v1 then
    jq_b2 (X1_signersOf p1 53 t3.2) fun v4 s5 =>
    (X1_allParties p1 s5).bind fun v6 =>
    if v4 = v6 then
      some (.inr (.inl s5))
    
    else
      (X8_goOn p1 s5).bind fun s7 =>
      jq_lt (jq_w (t3.1 + 1)) fun v8 =>
      some (.inl (v8, s7))
  
  else
    some (.inr (.inr t3.2))
noncomputable def X8_findGood (p1 : Int) (σ : jq_M) : Option (Int × jq_M) :=
  jq_b2 (X8_begin p1 σ) fun v1 s2 =>
  (jq_lp (X8_findGood_b8 p1 v1) (0, s2)).bind (Sum.elim (fun e9 =>
    some (1, e9)
  )
    (fun e10 =>
      some (0, e10)))
noncomputable def X10_goodAt (p1 : Int) (σ : jq_M) : Option (Int × jq_M) :=
  jq_lt (σ 0 7) fun c1 =>
  (X1_isParty c1 p1 σ).bind fun v3 =>
  if v3 = 0 then
    jq_b2 (X10_refuse 1 σ) fun v15 s16 =>
    some (v15, s16)
  
  else
    jq_lt (σ 0 7) fun c5 =>
    jq_b2 (X8_findGood c5 σ) fun v7 s8 =>
    if v7 = 0 then
      jq_b2 (X10_refuse 6 s8) fun v13 s14 =>
      some (v13, s14)
    
    else
      (jq_ld s8 53 5 p1).bind fun v10 =>
      jq_b2 (X10_answer v10 s8) fun v11 s12 =>
      some (v11, s12)
noncomputable def X8_findBest_j55 (p1 : Int) (v1 : Int) (j9 : Int) (j10 : Int) (s11 : jq_M) : Option ((Int × Int × jq_M) ⊕ (Int × jq_M)) :=
  (X8_goOn p1 s11).bind fun s12 =>
  jq_lt (jq_w (j10 + 1)) fun v13 =>
  some (.inl (j9, v13, s12))
noncomputable def X8_findBest_j38 (p1 : Int) (v1 : Int) (j5 : Int) (j6 : Int) (s7 : jq_M) : Option ((Int × Int × jq_M) ⊕ (Int × jq_M)) :=
  (jq_cpy s7 53 5 0 54 5 0 5).bind fun s8 =>
  X8_findBest_j55 p1 v1 j6 j5 s8
noncomputable def X8_findBest_b11 (p1 : Int) (v1 : Int) (t3 : Int × Int × jq_M) : Option ((Int × Int × jq_M) ⊕ (Int × jq_M)) :=
  if t3.2.1 < v1 then
    (X1_worthOfAll p1 53 t3.2.2).bind fun v4 =>
    if t3.2.1 = 0 then
      X8_findBest_j38 p1 v1 t3.2.1 v4 t3.2.2
    
    else
      if t3.1 < v4 then
        X8_findBest_j38 p1 v1 t3.2.1 v4 t3.2.2
      
      else
        X8_findBest_j55 p1 v1 t3.1 t3.2.1 t3.2.2
  
  else
    some (.inr (t3.1, t3.2.2))
noncomputable def X8_findBest (p1 : Int) (σ : jq_M) : Option (Int × jq_M) :=
  jq_b2 (X8_begin p1 σ) fun v1 s2 =>
  (jq_lp (X8_findBest_b11 p1 v1) (0, 0, s2)).bind (fun e14 =>
    some (e14.1, e14.2)
  )
noncomputable def X10_best (σ : jq_M) : Option (Int × jq_M) :=
  jq_lt (σ 0 7) fun c1 =>
  if σ c1 0 = 0 then
    jq_b2 (X10_refuse 6 σ) fun v9 s10 =>
    some (v9, s10)
  
  else
    jq_lt (σ 0 7) fun c3 =>
    jq_b2 (X8_findBest c3 σ) fun v5 s6 =>
    jq_b2 (X10_answer v5 s6) fun v7 s8 =>
    some (v7, s8)
noncomputable def X10_bestAt (p1 : Int) (σ : jq_M) : Option (Int × jq_M) :=
  jq_lt (σ 0 7) fun c1 =>
  (X1_isParty c1 p1 σ).bind fun v3 =>
  if v3 = 0 then
    jq_b2 (X10_refuse 1 σ) fun v12 s13 =>
    some (v12, s13)
  
  else
    jq_lt (σ 0 7) fun c5 =>
    jq_b2 (X8_findBest c5 σ) fun v7 s8 =>
    (jq_ld s8 54 5 p1).bind fun v9 =>
    jq_b2 (X10_answer v9 s8) fun v10 s11 =>
    some (v10, s11)
noncomputable def X8_outcomes_b11 (p1 : Int) (v1 : Int) (t3 : Int × Int × jq_M) : Option ((Int × Int × jq_M) ⊕ (Int × jq_M)) :=
  if t3.2.1 < v1 then
    jq_b2 (X1_signersOf p1 53 t3.2.2) fun v4 s5 =>
    jq_lt (jq_or t3.1 (jq_shl 1 v4)) fun v6 =>
    (X8_goOn p1 s5).bind fun s7 =>
    jq_lt (jq_w (t3.2.1 + 1)) fun v8 =>
    some (.inl (v6, v8, s7))
  
  else
    some (.inr (t3.1, t3.2.2))
noncomputable def X8_outcomes (p1 : Int) (σ : jq_M) : Option (Int × jq_M) :=
  jq_b2 (X8_begin p1 σ) fun v1 s2 =>
  (jq_lp (X8_outcomes_b11 p1 v1) (0, 0, s2)).bind (fun e9 =>
    some (e9.1, e9.2)
  )
noncomputable def X8_mostOf_b4 (p0 : Int) (σ : jq_M) (t1 : Int × Int) : Option ((Int × Int) ⊕ (Int)) :=
  if t1.2 < 32 then
    (X10_holds p0 t1.2 σ).bind fun v2 =>
    if v2 = 0 then
      jq_lt (jq_w (t1.2 + 1)) fun v4 =>
      some (.inl (t1.1, v4))
    
    else
      (J6_bitCount_0f7a4 t1.2 σ).bind fun v5 =>
      jq_lt (jq_max t1.1 v5) fun v6 =>
      jq_lt (jq_w (t1.2 + 1)) fun v7 =>
      some (.inl (v6, v7))
  
  else
    some (.inr t1.1)
noncomputable def X8_mostOf (p0 : Int) (σ : jq_M) : Option (Int) :=
  (jq_lp (X8_mostOf_b4 p0 σ) (0, 0)).bind (fun e8 =>
    some e8
  )
noncomputable def X10_mostSign (σ : jq_M) : Option (Int × jq_M) :=
  jq_lt (σ 0 7) fun c1 =>
  if σ c1 0 = 0 then
    jq_b2 (X10_refuse 6 σ) fun v10 s11 =>
    some (v10, s11)
  
  else
    jq_lt (σ 0 7) fun c3 =>
    jq_b2 (X8_outcomes c3 σ) fun v5 s6 =>
    (X8_mostOf v5 s6).bind fun v7 =>
    jq_b2 (X10_answer v7 s6) fun v8 s9 =>
    some (v8, s9)
noncomputable def X8_isMet_b2 (p0 : Int) (p1 : Int) (σ : jq_M) (t1 : Int) : Option ((Int) ⊕ ((Unit) ⊕ (Unit))) :=
  if t1 < 32 then
    (X10_holds p0 t1 σ).bind fun v2 =>
    if v2 = 0 then
      jq_lt (jq_w (t1 + 1)) fun v4 =>
      some (.inl v4)
    
    else
      if jq_and p1 (jq_xor t1 (-1)) = 0 then
        some (.inr (.inl ()))
      
      else
        jq_lt (jq_w (t1 + 1)) fun v5 =>
        some (.inl v5)
  
  else
    some (.inr (.inr ()))
noncomputable def X8_isMet (p0 : Int) (p1 : Int) (σ : jq_M) : Option (Int) :=
  (jq_lp (X8_isMet_b2 p0 p1 σ) 0).bind (Sum.elim (fun e6 =>
    some 1
  )
    (fun e7 =>
      some 0))
noncomputable def X8_leastUnmet_b9 (p0 : Int) (p1 : Int) (σ : jq_M) (t1 : Int) (t2 : Int) : Option ((Int) ⊕ ((Int) ⊕ (Unit))) :=
  if t2 < jq_shl 1 p1 then
    (J6_bitCount_0f7a4 t2 σ).bind fun v3 =>
    if v3 = t1 then
      (X8_isMet p0 t2 σ).bind fun v5 =>
      if v5 = 0 then
        some (.inr (.inl t2))
      
      else
        jq_lt (jq_w (t2 + 1)) fun v7 =>
        some (.inl v7)
    
    else
      jq_lt (jq_w (t2 + 1)) fun v4 =>
      some (.inl v4)
  
  else
    some (.inr (.inr ()))
noncomputable def X8_leastUnmet_b2 (p0 : Int) (p1 : Int) (σ : jq_M) (t1 : Int) : Option ((Int) ⊕ ((Int) ⊕ (Unit))) :=
  if p1 < t1 then
    some (.inr (.inr ()))
  
  else
    (jq_lp (X8_leastUnmet_b9 p0 p1 σ t1) 1).bind (Sum.elim (fun e8 =>
      some (.inr (.inl e8))
    )
      (fun e9 =>
        jq_lt (jq_w (t1 + 1)) fun v10 =>
        some (.inl v10)))
noncomputable def X8_leastUnmet (p0 : Int) (p1 : Int) (σ : jq_M) : Option (Int) :=
  (jq_lp (X8_leastUnmet_b2 p0 p1 σ) 1).bind (Sum.elim (fun e11 =>
    some e11
  )
    (fun e12 =>
      some (-1)))
noncomputable def X10_quarrel (σ : jq_M) : Option (Int × jq_M) :=
  jq_lt (σ 0 7) fun c1 =>
  jq_b2 (X8_outcomes c1 σ) fun v3 s4 =>
  jq_lt (s4 0 7) fun c5 =>
  (X8_leastUnmet v3 (s4 c5 2) s4).bind fun v7 =>
  jq_b2 (X10_answerOrNone v7 s4) fun v8 s9 =>
  some (v8, s9)
noncomputable def X10_pleased (p1 : Int) (σ : jq_M) : Option (Int × jq_M) :=
  jq_lt (σ 0 7) fun c1 =>
  (X1_allParties c1 σ).bind fun v3 =>
  (X10_within p1 0 v3 σ).bind fun v4 =>
  if v4 = 0 then
    jq_b2 (X10_refuse 1 σ) fun v19 s20 =>
    some (v19, s20)
  
  else
    jq_lt (σ 0 7) fun c6 =>
    if σ c6 0 = 0 then
      jq_b2 (X10_refuse 6 σ) fun v17 s18 =>
      some (v17, s18)
    
    else
      jq_lt (σ 0 7) fun c8 =>
      jq_b2 (X8_outcomes c8 σ) fun v10 s11 =>
      (X8_isMet v10 p1 s11).bind fun v12 =>
      (X10_asNumber v12 s11).bind fun v14 =>
      jq_b2 (X10_answer v14 s11) fun v15 s16 =>
      some (v15, s16)
noncomputable def X8_mostWorthTo_b20 (p1 : Int) (p2 : Int) (v1 : Int) (t4 : Int × Int × jq_M) : Option ((Int × Int × jq_M) ⊕ (Int × jq_M)) :=
  if t4.2.1 < v1 then
    (X1_worthTo p1 p2 53 t4.2.2).bind fun v5 =>
    jq_lt (jq_max t4.1 v5) fun v6 =>
    (X8_goOn p1 t4.2.2).bind fun s7 =>
    jq_lt (jq_w (t4.2.1 + 1)) fun v8 =>
    some (.inl (v6, v8, s7))
  
  else
    some (.inr (t4.1, t4.2.2))
noncomputable def X8_mostWorthTo (p1 : Int) (p2 : Int) (σ : jq_M) : Option (Int × jq_M) :=
  jq_b2 (X8_begin p1 σ) fun v1 s2 =>
  (X1_worthTo p1 p2 53 s2).bind fun v3 =>
  (jq_lp (X8_mostWorthTo_b20 p1 p2 v1) (v3, 0, s2)).bind (fun e9 =>
    some (e9.1, e9.2)
  )
noncomputable def X10_mostFor (p1 : Int) (σ : jq_M) : Option (Int × jq_M) :=
  jq_lt (σ 0 7) fun c1 =>
  (X1_isParty c1 p1 σ).bind fun v3 =>
  if v3 = 0 then
    jq_b2 (X10_refuse 1 σ) fun v11 s12 =>
    some (v11, s12)
  
  else
    jq_lt (σ 0 7) fun c5 =>
    jq_b2 (X8_mostWorthTo c5 p1 σ) fun v7 s8 =>
    jq_b2 (X10_answer v7 s8) fun v9 s10 =>
    some (v9, s10)
noncomputable def X8_countSigned_j33 (p1 : Int) (p2 : Int) (v1 : Int) (j6 : Int) (j7 : Int) (s8 : jq_M) : Option ((Int × Int × jq_M) ⊕ (Int × jq_M)) :=
  (X8_goOn p1 s8).bind fun s9 =>
  jq_lt (jq_w (j7 + 1)) fun v10 =>
  some (.inl (j6, v10, s9))
noncomputable def X8_countSigned_b12 (p1 : Int) (p2 : Int) (v1 : Int) (t3 : Int × Int × jq_M) : Option ((Int × Int × jq_M) ⊕ (Int × jq_M)) :=
  if t3.2.1 < v1 then
    (X1_doesSign p1 p2 53 t3.2.2).bind fun v4 =>
    if v4 = 0 then
      X8_countSigned_j33 p1 p2 v1 t3.1 t3.2.1 t3.2.2
    
    else
      jq_lt (jq_w (t3.1 + 1)) fun v11 =>
      X8_countSigned_j33 p1 p2 v1 v11 t3.2.1 t3.2.2
  
  else
    some (.inr (t3.1, t3.2.2))
noncomputable def X8_countSigned (p1 : Int) (p2 : Int) (σ : jq_M) : Option (Int × jq_M) :=
  jq_b2 (X8_begin p1 σ) fun v1 s2 =>
  (jq_lp (X8_countSigned_b12 p1 p2 v1) (0, 0, s2)).bind (fun e12 =>
    some (e12.1, e12.2)
  )
noncomputable def X10_signsIn (p1 : Int) (σ : jq_M) : Option (Int × jq_M) :=
  jq_lt (σ 0 7) fun c1 =>
  (X1_isParty c1 p1 σ).bind fun v3 =>
  if v3 = 0 then
    jq_b2 (X10_refuse 1 σ) fun v11 s12 =>
    some (v11, s12)
  
  else
    jq_lt (σ 0 7) fun c5 =>
    jq_b2 (X8_countSigned c5 p1 σ) fun v7 s8 =>
    jq_b2 (X10_answer v7 s8) fun v9 s10 =>
    some (v9, s10)
noncomputable def X10_seatBest (σ : jq_M) : Option (Int × jq_M) :=
  jq_lt (σ 0 7) fun c1 =>
  if σ c1 0 = 0 then
    jq_b2 (X10_refuse 6 σ) fun v12 s13 =>
    some (v12, s13)
  
  else
    jq_lt (σ 0 7) fun c3 =>
    jq_b2 (X8_findBest c3 σ) fun v5 s6 =>
    jq_lt (s6 0 7) fun c7 =>
    (jq_cpy s6 54 5 0 (c7 + 3) 5 0 5).bind fun s9 =>
    jq_b2 (X10_answer v5 s9) fun v10 s11 =>
    some (v10, s11)
noncomputable def X1_lackOf_b9 (o : Int) (s1 : jq_M) (t2 : Int × Int) : Option ((Int × Int) ⊕ (Int)) :=
  if t2.2 < s1 o 2 then
    if t2.2 < 5 then
      (jq_ld s1 (o + 2) 5 t2.2).bind fun v3 =>
      (jq_ld s1 (o + 19) 5 t2.2).bind fun v4 =>
      jq_lt (jq_w (t2.1 + (jq_max 0 (jq_w (v3 - v4))))) fun v5 =>
      jq_lt (jq_w (t2.2 + 1)) fun v6 =>
      some (.inl (v5, v6))
    
    else
      some (.inr t2.1)
  
  else
    some (.inr t2.1)
noncomputable def X1_lackOf (o : Int) (p1 : Int) (σ : jq_M) : Option (Int × jq_M) :=
  (X1_weigh o p1 σ).bind fun s1 =>
  (jq_lp (X1_lackOf_b9 o s1) (0, 0)).bind (fun e7 =>
    some (e7, s1)
  )
noncomputable def X10_fish (σ : jq_M) : Option (Int × jq_M) :=
  jq_lt (σ 0 7) fun c1 =>
  jq_lt (σ 0 7) fun c3 =>
  jq_b2 (X1_lackOf c1 (c3 + 3) σ) fun v5 s6 =>
  jq_b2 (X10_answer v5 s6) fun v7 s8 =>
  some (v7, s8)
noncomputable def X8_leastLack_b18 (p1 : Int) (v1 : Int) (t5 : Int × Int × jq_M) : Option ((Int × Int × jq_M) ⊕ (Int × jq_M)) :=
  if t5.2.1 < v1 then
    jq_b2 (X1_lackOf p1 53 t5.2.2) fun v6 s7 =>
    jq_lt (jq_min t5.1 v6) fun v8 =>
    (X8_goOn p1 s7).bind fun s9 =>
    jq_lt (jq_w (t5.2.1 + 1)) fun v10 =>
    some (.inl (v8, v10, s9))
  
  else
    some (.inr (t5.1, t5.2.2))
noncomputable def X8_leastLack (p1 : Int) (σ : jq_M) : Option (Int × jq_M) :=
  jq_b2 (X8_begin p1 σ) fun v1 s2 =>
  jq_b2 (X1_lackOf p1 53 s2) fun v3 s4 =>
  (jq_lp (X8_leastLack_b18 p1 v1) (v3, 0, s4)).bind (fun e11 =>
    some (e11.1, e11.2)
  )
noncomputable def X10_leastFish (σ : jq_M) : Option (Int × jq_M) :=
  jq_lt (σ 0 7) fun c1 =>
  if σ c1 0 = 0 then
    jq_b2 (X10_refuse 6 σ) fun v9 s10 =>
    some (v9, s10)
  
  else
    jq_lt (σ 0 7) fun c3 =>
    jq_b2 (X8_leastLack c3 σ) fun v5 s6 =>
    jq_b2 (X10_answer v5 s6) fun v7 s8 =>
    some (v7, s8)
noncomputable def X10_layTrial (σ : jq_M) : Option (jq_M) :=
  jq_lt (σ 0 7) fun c1 =>
  (jq_cpy σ (c1 + 3) 5 0 63 5 0 5).bind fun s3 =>
  some s3
noncomputable def X10_bestSwap_b35 (t6 : Int × Int × Int × jq_M) (t10 : Int × Int × Int × jq_M) : Option ((Int × Int × Int × jq_M) ⊕ (Int × Int × jq_M)) :=
  jq_lt (t10.2.2.2 0 7) fun c11 =>
  if t10.2.2.1 < t10.2.2.2 c11 2 then
    (X10_layTrial t10.2.2.2).bind fun s13 =>
    jq_lt (s13 0 7) fun c14 =>
    jq_b2 (X1_swapTwo c14 t6.2.2.1 t10.2.2.1 63 s13) fun v16 s17 =>
    if v16 = 0 then
      jq_lt (jq_w (t10.2.2.1 + 1)) fun v19 =>
      some (.inl (t10.1, t10.2.1, v19, s17))
    
    else
      jq_lt (s17 0 7) fun c20 =>
      (X1_worthOfAll c20 63 s17).bind fun v22 =>
      if t10.1 < v22 then
        jq_lt (s17 0 7) fun c24 =>
        (X1_worthOfAll c24 63 s17).bind fun v26 =>
        jq_lt (jq_w ((jq_w (10 * t6.2.2.1)) + t10.2.2.1)) fun v27 =>
        jq_lt (jq_w (t10.2.2.1 + 1)) fun v28 =>
        some (.inl (v26, v27, v28, s17))
      
      else
        jq_lt (jq_w (t10.2.2.1 + 1)) fun v23 =>
        some (.inl (t10.1, t10.2.1, v23, s17))
  
  else
    some (.inr (t10.1, t10.2.1, t10.2.2.2))
noncomputable def X10_bestSwap_b19  (t6 : Int × Int × Int × jq_M) : Option ((Int × Int × Int × jq_M) ⊕ (Int × jq_M)) :=
  jq_lt (t6.2.2.2 0 7) fun c7 =>
  if t6.2.2.1 < t6.2.2.2 c7 2 then
    jq_lt (jq_w (t6.2.2.1 + 1)) fun v9 =>
    (jq_lp (X10_bestSwap_b35 t6) (t6.1, t6.2.1, v9, t6.2.2.2)).bind (fun e29 =>
      jq_lt (jq_w (t6.2.2.1 + 1)) fun v30 =>
      some (.inl (e29.1, e29.2.1, v30, e29.2.2))
    )
  
  else
    some (.inr (t6.2.1, t6.2.2.2))
noncomputable def X10_bestSwap (σ : jq_M) : Option (Int × jq_M) :=
  jq_lt (σ 0 7) fun c1 =>
  jq_lt (σ 0 7) fun c3 =>
  (X1_worthOfAll c1 (c3 + 3) σ).bind fun v5 =>
  (jq_lp (X10_bestSwap_b19) (v5, (-1), 0, σ)).bind (fun e31 =>
    jq_b2 (X10_answerOrNone e31.1 e31.2) fun v32 s33 =>
    some (v32, s33)
  )
noncomputable def X10_bestTurn_b19  (t6 : Int × Int × Int × jq_M) : Option ((Int × Int × Int × jq_M) ⊕ (Int × jq_M)) :=
  jq_lt (t6.2.2.2 0 7) fun c7 =>
  if t6.2.2.1 < t6.2.2.2 c7 0 then
    (X10_layTrial t6.2.2.2).bind fun s9 =>
    jq_lt (s9 0 7) fun c10 =>
    (X1_turnAll c10 t6.2.2.1 63 s9).bind fun s12 =>
    jq_lt (s12 0 7) fun c13 =>
    (X1_worthOfAll c13 63 s12).bind fun v15 =>
    if t6.1 < v15 then
      jq_lt (jq_w (t6.2.2.1 + 1)) fun v17 =>
      some (.inl (v15, t6.2.2.1, v17, s12))
    
    else
      jq_lt (jq_w (t6.2.2.1 + 1)) fun v16 =>
      some (.inl (t6.1, t6.2.1, v16, s12))
  
  else
    some (.inr (t6.2.1, t6.2.2.2))
noncomputable def X10_bestTurn (σ : jq_M) : Option (Int × jq_M) :=
  jq_lt (σ 0 7) fun c1 =>
  jq_lt (σ 0 7) fun c3 =>
  (X1_worthOfAll c1 (c3 + 3) σ).bind fun v5 =>
  (jq_lp (X10_bestTurn_b19) (v5, (-1), 1, σ)).bind (fun e18 =>
    jq_b2 (X10_answerOrNone e18.1 e18.2) fun v19 s20 =>
    some (v19, s20)
  )
noncomputable def X10_signsBy (p1 : Int) (p2 : Int) (σ : jq_M) : Option (Int × jq_M) :=
  (X10_areTwo p1 p2 σ).bind fun v1 =>
  if v1 = 0 then
    jq_b2 (X10_refuse 1 σ) fun v17 s18 =>
    some (v17, s18)
  
  else
    (X10_layTrial σ).bind fun s3 =>
    jq_lt (s3 0 7) fun c4 =>
    jq_b2 (X1_swapTwo c4 p1 p2 63 s3) fun v6 s7 =>
    if v6 = 0 then
      jq_b2 (X10_refuse 7 s7) fun v15 s16 =>
      some (v15, s16)
    
    else
      jq_lt (s7 0 7) fun c9 =>
      jq_b2 (X1_signersOf c9 63 s7) fun v11 s12 =>
      jq_b2 (X10_answer v11 s12) fun v13 s14 =>
      some (v13, s14)
noncomputable def X1_sits (o : Int) (p1 : Int) (σ : jq_M) : Option (Int) :=
  (X1_isParty o p1 σ).bind fun v1 =>
  if v1 = 0 then
    some 0
  
  else
    (jq_ld σ (o + 3) 5 p1).bind fun v3 =>
    if v3 = (-1) then
      some 0
    
    else
      some 1
noncomputable def X10_whyNoGame (p1 : Int) (p2 : Int) (p3 : Int) (p4 : Int) (σ : jq_M) : Option (Int) :=
  (X10_areTwo p1 p2 σ).bind fun v1 =>
  if v1 = 0 then
    some 1
  
  else
    (X10_within p3 p4 3 σ).bind fun v3 =>
    if v3 = 0 then
      some 1
    
    else
      jq_lt (σ 0 7) fun c5 =>
      (X1_sits c5 p1 σ).bind fun v7 =>
      if v7 = 0 then
        some 7
      
      else
        jq_lt (σ 0 7) fun c9 =>
        (X1_sits c9 p2 σ).bind fun v11 =>
        if v11 = 0 then
          some 7
        
        else
          some 0
noncomputable def X4_shift (p0 : Int) (p1 : Int) (p2 : Int) (p3 : Int) (σ : jq_M) : Option (jq_M) :=
  (X1_sitterAt p0 p3 p1 σ).bind fun v1 =>
  (X1_isParty p0 p2 σ).bind fun v2 =>
  if v2 = 0 then
    some σ
  
  else
    (X1_isParty p0 v1 σ).bind fun v4 =>
    if v4 = 0 then
      (jq_sa σ p1 5 p2 p3).bind fun s6 =>
      some s6
    
    else
      (jq_ld σ p1 5 p2).bind fun v7 =>
      (jq_sa σ p1 5 v1 v7).bind fun s8 =>
      (jq_sa s8 p1 5 p2 p3).bind fun s9 =>
      some s9
noncomputable def X4_bestLead_j38 (p0 : Int) (p1 : Int) (p2 : Int) (p3 : Int) (s4 : jq_M) : Option (Int × jq_M) :=
  (X1_worthTo p0 p2 p1 s4).bind fun v5 =>
  (X1_worthTo p0 p3 p1 s4).bind fun v6 =>
  some (jq_w (v5 - v6), s4)
noncomputable def X4_bestLead_j121 (p0 : Int) (p1 : Int) (p2 : Int) (p3 : Int) (p4 : Int) (p5 : Int) (rc : Int → Int → Int → Int → Int → Int → jq_M → Option (Int × jq_M)) (j7 : Int) (j8 : Int) (j20 : Int) (j21 : Int) (j22 : Int) (j23 : Int) (j24 : Int) (j25 : Int) (s27 : jq_M) : Option ((Int × Int × jq_M) ⊕ (Int × jq_M)) :=
  jq_b2 (rc p0 p1 j22 j23 j24 j25 s27) fun v28 s29 =>
  (X4_shift p0 p1 j7 j8 s29).bind fun s30 =>
  if p5 = 0 then
    jq_lt (jq_min j20 v28) fun v31 =>
    jq_lt (jq_w (j21 + 1)) fun v32 =>
    some (.inl (v31, v32, s30))
  
  else
    jq_lt (jq_max j20 v28) fun v33 =>
    jq_lt (jq_w (j21 + 1)) fun v34 =>
    some (.inl (v33, v34, s30))
noncomputable def X4_bestLead_b78 (p0 : Int) (p1 : Int) (p2 : Int) (p3 : Int) (p4 : Int) (p5 : Int) (rc : Int → Int → Int → Int → Int → Int → jq_M → Option (Int × jq_M)) (j7 : Int) (j8 : Int) (t17 : Int × Int × jq_M) : Option ((Int × Int × jq_M) ⊕ (Int × jq_M)) :=
  if t17.2.1 < t17.2.2 p0 0 then
    if t17.2.1 = j8 then
      jq_lt (jq_w (t17.2.1 + 1)) fun v18 =>
      some (.inl (t17.1, v18, t17.2.2))
    
    else
      (X4_shift p0 p1 j7 t17.2.1 t17.2.2).bind fun s19 =>
      if p5 = 0 then
        X4_bestLead_j121 p0 p1 p2 p3 p4 p5 rc j7 j8 t17.1 t17.2.1 p2 p3 (jq_w (p4 - 1)) 1 s19
      
      else
        X4_bestLead_j121 p0 p1 p2 p3 p4 p5 rc j7 j8 t17.1 t17.2.1 p2 p3 (jq_w (p4 - 1)) 0 s19
  
  else
    some (.inr (t17.1, t17.2.2))
noncomputable def X4_bestLead_j70 (p0 : Int) (p1 : Int) (p2 : Int) (p3 : Int) (p4 : Int) (p5 : Int) (rc : Int → Int → Int → Int → Int → Int → jq_M → Option (Int × jq_M)) (j7 : Int) (j8 : Int) (j9 : Int) (j10 : Int) (j11 : Int) (j12 : Int) (s14 : jq_M) : Option (Int × jq_M) :=
  jq_b2 (rc p0 p1 j9 j10 j11 j12 s14) fun v15 s16 =>
  (jq_lp (X4_bestLead_b78 p0 p1 p2 p3 p4 p5 rc j7 j8) (v15, 0, s16)).bind (fun e35 =>
    some (e35.1, e35.2)
  )
noncomputable def X4_bestLead_j10 (p0 : Int) (p1 : Int) (p2 : Int) (p3 : Int) (p4 : Int) (p5 : Int) (rc : Int → Int → Int → Int → Int → Int → jq_M → Option (Int × jq_M)) (j1 : Int) (s2 : jq_M) : Option (Int × jq_M) :=
  (X1_seatIn p1 j1 s2).bind fun v3 =>
  if p4 < 1 then
    X4_bestLead_j38 p0 p1 p2 p3 s2
  
  else
    if 3 < p4 then
      X4_bestLead_j38 p0 p1 p2 p3 s2
    
    else
      if v3 = (-1) then
        X4_bestLead_j38 p0 p1 p2 p3 s2
      
      else
        if p5 = 0 then
          X4_bestLead_j70 p0 p1 p2 p3 p4 p5 rc j1 v3 p2 p3 (jq_w (p4 - 1)) 1 s2
        
        else
          X4_bestLead_j70 p0 p1 p2 p3 p4 p5 rc j1 v3 p2 p3 (jq_w (p4 - 1)) 0 s2
noncomputable def X4_bestLead : Nat → Int → Int → Int → Int → Int → Int → jq_M → Option (Int × jq_M)
  | 0 => fun _ _ _ _ _ _ _ => none
  | dp + 1 => fun p0 p1 p2 p3 p4 p5 σ =>
    if p5 = 0 then
      X4_bestLead_j10 p0 p1 p2 p3 p4 p5 (X4_bestLead dp) p3 σ
    
    else
      X4_bestLead_j10 p0 p1 p2 p3 p4 p5 (X4_bestLead dp) p2 σ
noncomputable def X10_game (p1 : Int) (p2 : Int) (p3 : Int) (σ : jq_M) : Option (Int × jq_M) :=
  (X10_whyNoGame p1 p2 p3 0 σ).bind fun v1 =>
  if v1 = 0 then
    (X10_layTrial σ).bind fun s2 =>
    jq_lt (s2 0 7) fun c3 =>
    jq_b2 (X4_bestLead 8 c3 63 p1 p2 p3 1 s2) fun v5 s6 =>
    jq_b2 (X10_answer v5 s6) fun v7 s8 =>
    some (v7, s8)
  
  else
    jq_b2 (X10_refuse v1 σ) fun v9 s10 =>
    some (v9, s10)
noncomputable def X4_firstMove_b16 (p0 : Int) (p1 : Int) (p2 : Int) (p3 : Int) (p4 : Int) (v1 : Int) (t2 : Int × Int × Int × jq_M) : Option ((Int × Int × Int × jq_M) ⊕ (Int × Int × jq_M)) :=
  if t2.2.2.1 < t2.2.2.2 p0 0 then
    if t2.2.2.1 = v1 then
      jq_lt (jq_w (t2.2.2.1 + 1)) fun v3 =>
      some (.inl (t2.1, t2.2.1, v3, t2.2.2.2))
    
    else
      (X4_shift p0 p1 p2 t2.2.2.1 t2.2.2.2).bind fun s4 =>
      jq_b2 (X4_bestLead 8 p0 p1 p2 p3 (jq_w (p4 - 1)) 0 s4) fun v5 s6 =>
      (X4_shift p0 p1 p2 v1 s6).bind fun s7 =>
      if t2.1 = (-1) then
        jq_lt (jq_w (t2.2.2.1 + 1)) fun v8 =>
        some (.inl (t2.2.2.1, v5, v8, s7))
      
      else
        if t2.2.1 < v5 then
          jq_lt (jq_w (t2.2.2.1 + 1)) fun v10 =>
          some (.inl (t2.2.2.1, v5, v10, s7))
        
        else
          jq_lt (jq_w (t2.2.2.1 + 1)) fun v9 =>
          some (.inl (t2.1, t2.2.1, v9, s7))
  
  else
    some (.inr (t2.1, t2.2.1, t2.2.2.2))
noncomputable def X4_firstMove (p0 : Int) (p1 : Int) (p2 : Int) (p3 : Int) (p4 : Int) (σ : jq_M) : Option (Int × jq_M) :=
  (X1_seatIn p1 p2 σ).bind fun v1 =>
  (jq_lp (X4_firstMove_b16 p0 p1 p2 p3 p4 v1) ((-1), 0, 0, σ)).bind (fun e11 =>
    jq_b2 (X4_bestLead 8 p0 p1 p2 p3 (jq_w (p4 - 1)) 0 e11.2.2) fun v12 s13 =>
    if e11.2.1 < v12 then
      some ((-1), s13)
    
    else
      some (e11.1, s13)
  )
noncomputable def X10_moveOf (p1 : Int) (p2 : Int) (p3 : Int) (σ : jq_M) : Option (Int × jq_M) :=
  (X10_whyNoGame p1 p2 p3 1 σ).bind fun v1 =>
  if v1 = 0 then
    (X10_layTrial σ).bind fun s2 =>
    jq_lt (s2 0 7) fun c3 =>
    jq_b2 (X4_firstMove c3 63 p1 p2 p3 s2) fun v5 s6 =>
    jq_b2 (X10_answerOrNone v5 s6) fun v7 s8 =>
    some (v7, s8)
  
  else
    jq_b2 (X10_refuse v1 σ) fun v9 s10 =>
    some (v9, s10)
noncomputable def X1_allLeansOf_b21 (o : Int) (σ : jq_M) (t5 : Int × Int) : Option ((Int × Int) ⊕ (Int)) :=
  if t5.2 < 0 then
    some (.inr t5.1)
  
  else
    (X10_holds t5.1 t5.2 σ).bind fun v6 =>
    if v6 = 0 then
      jq_lt (jq_w (t5.2 + (-1))) fun v8 =>
      some (.inl (t5.1, v8))
    
    else
      (jq_ld σ (o + 11) 8 t5.2).bind fun v9 =>
      jq_lt (jq_or t5.1 v9) fun v10 =>
      jq_lt (jq_w (t5.2 + (-1))) fun v11 =>
      some (.inl (v10, v11))
noncomputable def X1_allLeansOf (o : Int) (p1 : Int) (σ : jq_M) : Option (Int) :=
  (X1_isArticle o p1 σ).bind fun v1 =>
  if v1 = 0 then
    some 0
  
  else
    (jq_ld σ (o + 11) 8 p1).bind fun v3 =>
    jq_lt (jq_w (p1 - 1)) fun v4 =>
    (jq_lp (X1_allLeansOf_b21 o σ) (v3, v4)).bind (fun e12 =>
      some e12
    )
noncomputable def X10_leans (p1 : Int) (σ : jq_M) : Option (Int × jq_M) :=
  jq_lt (σ 0 7) fun c1 =>
  (X1_isArticle c1 p1 σ).bind fun v3 =>
  if v3 = 0 then
    jq_b2 (X10_refuse 1 σ) fun v10 s11 =>
    some (v10, s11)
  
  else
    jq_lt (σ 0 7) fun c5 =>
    (X1_allLeansOf c5 p1 σ).bind fun v7 =>
    jq_b2 (X10_answer v7 σ) fun v8 s9 =>
    some (v8, s9)
noncomputable def X10_falls (p1 : Int) (σ : jq_M) : Option (Int × jq_M) :=
  jq_lt (σ 0 7) fun c1 =>
  (X1_isArticle c1 p1 σ).bind fun v3 =>
  if v3 = 0 then
    jq_b2 (X10_refuse 1 σ) fun v10 s11 =>
    some (v10, s11)
  
  else
    jq_lt (σ 0 7) fun c5 =>
    (X1_allFallsOf c5 p1 σ).bind fun v7 =>
    jq_b2 (X10_answer v7 σ) fun v8 s9 =>
    some (v8, s9)
noncomputable def X0_keystoneOf_b6 (p0 : Int) (σ : jq_M) (t1 : Int × Int × Int) : Option ((Int × Int × Int) ⊕ (Int)) :=
  if t1.2.2 < σ p0 4 then
    (X1_allFallsOf p0 t1.2.2 σ).bind fun v2 =>
    (J6_bitCount_0f7a4 v2 σ).bind fun v3 =>
    if t1.2.1 < v3 then
      jq_lt (jq_w (t1.2.2 + 1)) fun v5 =>
      some (.inl (t1.2.2, v3, v5))
    
    else
      jq_lt (jq_w (t1.2.2 + 1)) fun v4 =>
      some (.inl (t1.1, t1.2.1, v4))
  
  else
    some (.inr t1.1)
noncomputable def X0_keystoneOf (p0 : Int) (σ : jq_M) : Option (Int) :=
  (jq_lp (X0_keystoneOf_b6 p0 σ) ((-1), 0, 0)).bind (fun e6 =>
    some e6
  )
noncomputable def X10_keystone (σ : jq_M) : Option (Int × jq_M) :=
  jq_lt (σ 0 7) fun c1 =>
  (X0_keystoneOf c1 σ).bind fun v3 =>
  jq_b2 (X10_answerOrNone v3 σ) fun v4 s5 =>
  some (v4, s5)
noncomputable def X0_countOrders_b11 (p1 : Int) (t2 : Int × jq_M) : Option ((Int × jq_M) ⊕ (jq_M)) :=
  if t2.1 < 256 then
    if t2.1 = t2.2 p1 5 then
      (jq_sa t2.2 58 256 t2.1 1).bind fun s5 =>
      jq_lt (jq_w (t2.1 + 1)) fun v6 =>
      some (.inl (v6, s5))
    
    else
      (jq_sa t2.2 58 256 t2.1 0).bind fun s3 =>
      jq_lt (jq_w (t2.1 + 1)) fun v4 =>
      some (.inl (v4, s3))
  
  else
    some (.inr t2.2)
noncomputable def X0_countOrders_b64 (p1 : Int) (t8 : Int × jq_M) (t9 : Int × jq_M) : Option ((Int × jq_M) ⊕ (jq_M)) :=
  if t9.1 < t9.2 p1 4 then
    if t9.1 < 8 then
      jq_lt (jq_or t8.1 (jq_shl 1 t9.1)) fun v10 =>
      if v10 = t8.1 then
        jq_lt (jq_w (t9.1 + 1)) fun v11 =>
        some (.inl (v11, t9.2))
      
      else
        if v10 < 256 then
          (jq_ld t9.2 (p1 + 11) 8 t9.1).bind fun v13 =>
          if jq_and v13 (jq_xor t8.1 (-1)) = 0 then
            (jq_ld t9.2 58 256 v10).bind fun v15 =>
            (jq_ld t9.2 58 256 t8.1).bind fun v16 =>
            (jq_sa t9.2 58 256 v10 (jq_w (v15 + v16))).bind fun s17 =>
            jq_lt (jq_w (t9.1 + 1)) fun v18 =>
            some (.inl (v18, s17))
          
          else
            jq_lt (jq_w (t9.1 + 1)) fun v14 =>
            some (.inl (v14, t9.2))
        
        else
          jq_lt (jq_w (t9.1 + 1)) fun v12 =>
          some (.inl (v12, t9.2))
    
    else
      some (.inr t9.2)
  
  else
    some (.inr t9.2)
noncomputable def X0_countOrders_b47 (p1 : Int) (v1 : Int) (t8 : Int × jq_M) : Option ((Int × jq_M) ⊕ (jq_M)) :=
  if t8.1 < v1 then
    if t8.1 < 256 then
      (jq_lp (X0_countOrders_b64 p1 t8) (0, t8.2)).bind (fun e19 =>
        jq_lt (jq_w (t8.1 + 1)) fun v20 =>
        some (.inl (v20, e19))
      )
    
    else
      some (.inr t8.2)
  
  else
    some (.inr t8.2)
noncomputable def X0_countOrders_j149  (j22 : Int) (s23 : jq_M) : Option (Int × jq_M) :=
  if j22 < 0 then
    some (0, s23)
  
  else
    if j22 < 256 then
      (jq_ld s23 58 256 j22).bind fun v24 =>
      some (v24, s23)
    
    else
      some (0, s23)
noncomputable def X0_countOrders (p1 : Int) (σ : jq_M) : Option (Int × jq_M) :=
  jq_lt (jq_w ((jq_shl 1 (σ p1 4)) - 1)) fun v1 =>
  (jq_lp (X0_countOrders_b11 p1) (0, σ)).bind (fun e7 =>
    (jq_lp (X0_countOrders_b47 p1 v1) (0, e7)).bind (fun e21 =>
      X0_countOrders_j149 v1 e21
    )
  )
noncomputable def X10_orders (σ : jq_M) : Option (Int × jq_M) :=
  jq_lt (σ 0 7) fun c1 =>
  jq_b2 (X0_countOrders c1 σ) fun v3 s4 =>
  jq_b2 (X10_answer v3 s4) fun v5 s6 =>
  some (v5, s6)
noncomputable def X1_takeFrom (o : Int) (p1 : Int) (σ : jq_M) : Option (jq_M) :=
  jq_lt (jq_st σ o 0 (σ p1 0)) fun s1 =>
  jq_lt (jq_st s1 o 1 (s1 p1 1)) fun s2 =>
  jq_lt (jq_st s2 o 2 (s2 p1 2)) fun s3 =>
  jq_lt (jq_st s3 o 3 (s3 p1 3)) fun s4 =>
  jq_lt (jq_st s4 o 4 (s4 p1 4)) fun s5 =>
  jq_lt (jq_st s5 o 5 (s5 p1 5)) fun s6 =>
  jq_lt (jq_st s6 o 6 (s6 p1 6)) fun s7 =>
  (jq_cpy s7 (p1 + 1) 5 0 (o + 1) 5 0 5).bind fun s8 =>
  (jq_cpy s8 (p1 + 2) 5 0 (o + 2) 5 0 5).bind fun s9 =>
  (jq_cpy s9 (p1 + 3) 5 0 (o + 3) 5 0 5).bind fun s10 =>
  (jq_cpy s10 (p1 + 4) 20 0 (o + 4) 20 0 20).bind fun s11 =>
  (jq_cpy s11 (p1 + 5) 20 0 (o + 5) 20 0 20).bind fun s12 =>
  (jq_cpy s12 (p1 + 6) 20 0 (o + 6) 20 0 20).bind fun s13 =>
  (jq_cpy s13 (p1 + 7) 20 0 (o + 7) 20 0 20).bind fun s14 =>
  (jq_cpy s14 (p1 + 8) 8 0 (o + 8) 8 0 8).bind fun s15 =>
  (jq_cpy s15 (p1 + 9) 8 0 (o + 9) 8 0 8).bind fun s16 =>
  (jq_cpy s16 (p1 + 10) 8 0 (o + 10) 8 0 8).bind fun s17 =>
  (jq_cpy s17 (p1 + 11) 8 0 (o + 11) 8 0 8).bind fun s18 =>
  (jq_cpy s18 (p1 + 12) 8 0 (o + 12) 8 0 8).bind fun s19 =>
  (X7_takeFrom (o + 13) (p1 + 13) s19).bind fun s20 =>
  some s20
noncomputable def X0_daysTill_b2 (p0 : Int) (p1 : Int) (t1 : Int × jq_M) : Option ((Int × jq_M) ⊕ (Int × jq_M)) :=
  (X1_isAgreed p0 p1 t1.2).bind fun v2 =>
  if v2 = 0 then
    if t1.1 < 240 then
      jq_b2 (X1_passOneDay p0 t1.2) fun v4 s5 =>
      jq_lt (jq_w (t1.1 + 1)) fun v6 =>
      some (.inl (v6, s5))
    
    else
      some (.inr (t1.1, t1.2))
  
  else
    some (.inr (t1.1, t1.2))
noncomputable def X0_daysTill (p0 : Int) (p1 : Int) (σ : jq_M) : Option (Int × jq_M) :=
  (jq_lp (X0_daysTill_b2 p0 p1) (0, σ)).bind (fun e7 =>
    some (e7.1, e7.2)
  )
noncomputable def X10_soonest (p1 : Int) (σ : jq_M) : Option (Int × jq_M) :=
  jq_lt (σ 0 7) fun c1 =>
  (X1_isArticle c1 p1 σ).bind fun v3 =>
  if v3 = 0 then
    jq_b2 (X10_refuse 1 σ) fun v16 s17 =>
    some (v16, s17)
  
  else
    jq_lt (σ 0 8) fun c5 =>
    jq_lt (σ 0 7) fun c7 =>
    (X1_takeFrom c5 c7 σ).bind fun s9 =>
    jq_lt (s9 0 8) fun c10 =>
    jq_b2 (X0_daysTill c10 p1 s9) fun v12 s13 =>
    jq_b2 (X10_answer v12 s13) fun v14 s15 =>
    some (v14, s15)
noncomputable def X0_latestEnd_b5 (p1 : Int) (p2 : Int) (σ : jq_M) (t1 : Int × Int) : Option ((Int × Int) ⊕ (Int)) :=
  if t1.2 < p2 then
    if t1.2 < 8 then
      (X10_holds p1 t1.2 σ).bind fun v2 =>
      if v2 = 0 then
        jq_lt (jq_w (t1.2 + 1)) fun v4 =>
        some (.inl (t1.1, v4))
      
      else
        (jq_ld σ 59 8 t1.2).bind fun v5 =>
        jq_lt (jq_max t1.1 v5) fun v6 =>
        jq_lt (jq_w (t1.2 + 1)) fun v7 =>
        some (.inl (v6, v7))
    
    else
      some (.inr t1.1)
  
  else
    some (.inr t1.1)
noncomputable def X0_latestEnd (p1 : Int) (p2 : Int) (σ : jq_M) : Option (Int) :=
  (jq_lp (X0_latestEnd_b5 p1 p2 σ) (0, 0)).bind (fun e8 =>
    some e8
  )
noncomputable def X0_daysTogether_b2 (p1 : Int) (p2 : Int) (t1 : Int × jq_M) : Option ((Int × jq_M) ⊕ (jq_M)) :=
  if p2 < t1.1 then
    some (.inr t1.2)
  
  else
    if t1.1 < 8 then
      (X1_isAgreed p1 t1.1 t1.2).bind fun v2 =>
      if v2 = 0 then
        (jq_ld t1.2 (p1 + 11) 8 t1.1).bind fun v4 =>
        (X0_latestEnd v4 t1.1 t1.2).bind fun v5 =>
        (jq_ld t1.2 (p1 + 9) 8 t1.1).bind fun v6 =>
        (jq_ld t1.2 (p1 + 12) 8 t1.1).bind fun v7 =>
        (jq_sa t1.2 59 8 t1.1 (jq_w ((jq_w (v5 + v6)) - v7))).bind fun s8 =>
        jq_lt (jq_w (t1.1 + 1)) fun v9 =>
        some (.inl (v9, s8))
      
      else
        (jq_sa t1.2 59 8 t1.1 0).bind fun s10 =>
        jq_lt (jq_w (t1.1 + 1)) fun v11 =>
        some (.inl (v11, s10))
    
    else
      some (.inr t1.2)
noncomputable def X0_daysTogether_j62 (p1 : Int) (p2 : Int) (s13 : jq_M) : Option (Int × jq_M) :=
  (X1_isArticle p1 p2 s13).bind fun v14 =>
  if v14 = 0 then
    some (0, s13)
  
  else
    (jq_ld s13 59 8 p2).bind fun v16 =>
    some (v16, s13)
noncomputable def X0_daysTogether (p1 : Int) (p2 : Int) (σ : jq_M) : Option (Int × jq_M) :=
  (jq_lp (X0_daysTogether_b2 p1 p2) (0, σ)).bind (fun e12 =>
    X0_daysTogether_j62 p1 p2 e12
  )
noncomputable def X10_chain (p1 : Int) (σ : jq_M) : Option (Int × jq_M) :=
  jq_lt (σ 0 7) fun c1 =>
  (X1_isArticle c1 p1 σ).bind fun v3 =>
  if v3 = 0 then
    jq_b2 (X10_refuse 1 σ) fun v11 s12 =>
    some (v11, s12)
  
  else
    jq_lt (σ 0 7) fun c5 =>
    jq_b2 (X0_daysTogether c5 p1 σ) fun v7 s8 =>
    jq_b2 (X10_answer v7 s8) fun v9 s10 =>
    some (v9, s10)
noncomputable def X10_agreedIn (p1 : Int) (σ : jq_M) : Option (Int × jq_M) :=
  (X10_within p1 0 300 σ).bind fun v1 =>
  if v1 = 0 then
    jq_b2 (X10_refuse 1 σ) fun v16 s17 =>
    some (v16, s17)
  
  else
    jq_lt (σ 0 8) fun c3 =>
    jq_lt (σ 0 7) fun c5 =>
    (X1_takeFrom c3 c5 σ).bind fun s7 =>
    jq_lt (s7 0 8) fun c8 =>
    jq_b2 (X1_passDays c8 p1 s7) fun v10 s11 =>
    jq_lt (s11 0 8) fun c12 =>
    jq_b2 (X10_answer (s11 c12 5) s11) fun v14 s15 =>
    some (v14, s15)
noncomputable def X0_oddsOfAll_b5 (p0 : Int) (p1 : Int) (σ : jq_M) (t1 : Int × Int) : Option ((Int × Int) ⊕ (Int)) :=
  if t1.2 < σ p0 4 then
    if t1.2 < 8 then
      (X10_holds p1 t1.2 σ).bind fun v2 =>
      if v2 = 0 then
        jq_lt (jq_w (t1.2 + 1)) fun v4 =>
        some (.inl (t1.1, v4))
      
      else
        (jq_ld σ (p0 + 10) 8 t1.2).bind fun v5 =>
        jq_lt (jq_w64 (t1.1 * v5)) fun v6 =>
        jq_lt (jq_w (t1.2 + 1)) fun v7 =>
        some (.inl (v6, v7))
    
    else
      some (.inr t1.1)
  
  else
    some (.inr t1.1)
noncomputable def X0_oddsOfAll (p0 : Int) (p1 : Int) (σ : jq_M) : Option (Int) :=
  (jq_lp (X0_oddsOfAll_b5 p0 p1 σ) (1, 0)).bind (fun e8 =>
    some e8
  )
noncomputable def X10_commonDivisor_b9  (t1 : Int × Int × Int) : Option ((Int × Int × Int) ⊕ (Int)) :=
  if t1.2.2 < 1000000 then
    if jq_cmp t1.2.1 0 = 0 then
      some (.inr t1.1)
    
    else
      (jq_lrem t1.1 t1.2.1).bind fun v2 =>
      jq_lt (jq_w (t1.2.2 + 1)) fun v3 =>
      some (.inl (t1.2.1, v2, v3))
  
  else
    some (.inr t1.1)
noncomputable def X10_commonDivisor (p0 : Int) (p2 : Int) (σ : jq_M) : Option (Int) :=
  (jq_lp (X10_commonDivisor_b9) (p0, p2, 0)).bind (fun e4 =>
    some e4
  )
noncomputable def X10_tellFraction (p1 : Int) (p3 : Int) (σ : jq_M) : Option (jq_M) :=
  (X10_commonDivisor (jq_labs p1) p3 σ).bind fun v1 =>
  if 0 < jq_cmp v1 0 then
    (jq_ldiv p1 v1).bind fun v2 =>
    jq_lt (jq_st σ 0 1 v2) fun s3 =>
    (jq_ldiv p3 v1).bind fun v4 =>
    jq_lt (jq_st s3 0 2 v4) fun s5 =>
    some s5
  
  else
    some σ
noncomputable def X10_luck_b35 (σ : jq_M) (v8 : Int) (t9 : Int × Int) : Option ((Int × Int) ⊕ (Int)) :=
  (J6_bitCount_0f7a4 v8 σ).bind fun v10 =>
  if t9.2 < v10 then
    jq_lt (jq_w64 (t9.1 * 16)) fun v11 =>
    jq_lt (jq_w (t9.2 + 1)) fun v12 =>
    some (.inl (v11, v12))
  
  else
    some (.inr t9.1)
noncomputable def X10_luck (p1 : Int) (σ : jq_M) : Option (Int × jq_M) :=
  jq_lt (σ 0 7) fun c1 =>
  (X1_isArticle c1 p1 σ).bind fun v3 =>
  if v3 = 0 then
    jq_b2 (X10_deny 1 σ) fun v21 s22 =>
    some (v21, s22)
  
  else
    jq_lt (σ 0 7) fun c5 =>
    (X1_allLeansOf c5 p1 σ).bind fun v7 =>
    jq_lt (jq_or v7 (jq_shl 1 p1)) fun v8 =>
    (jq_lp (X10_luck_b35 σ v8) (1, 0)).bind (fun e13 =>
      jq_lt (σ 0 7) fun c14 =>
      (X0_oddsOfAll c14 v8 σ).bind fun v16 =>
      (X10_tellFraction v16 e13 σ).bind fun s17 =>
      jq_b2 (X10_grant s17) fun v18 s19 =>
      some (v18, s19)
    )
noncomputable def X0_weakestOf_b44 (p0 : Int) (σ : jq_M) (t6 : Int × Int) : Option ((Int × Int) ⊕ (Int)) :=
  if t6.2 < σ p0 4 then
    jq_lt (jq_w64 (t6.1 * 16)) fun v7 =>
    jq_lt (jq_w (t6.2 + 1)) fun v8 =>
    some (.inl (v7, v8))
  
  else
    some (.inr t6.1)
noncomputable def X0_weakestOf_b7 (p0 : Int) (σ : jq_M) (t1 : Int × Int × Int) : Option ((Int × Int × Int) ⊕ (Int)) :=
  if t1.2.2 < σ p0 4 then
    (X1_allLeansOf p0 t1.2.2 σ).bind fun v2 =>
    jq_lt (jq_or v2 (jq_shl 1 t1.2.2)) fun v3 =>
    (X0_oddsOfAll p0 v3 σ).bind fun v4 =>
    (J6_bitCount_0f7a4 v3 σ).bind fun v5 =>
    (jq_lp (X0_weakestOf_b44 p0 σ) (v4, v5)).bind (fun e9 =>
      if t1.1 = (-1) then
        jq_lt (jq_w (t1.2.2 + 1)) fun v10 =>
        some (.inl (t1.2.2, e9, v10))
      
      else
        if jq_cmp e9 t1.2.1 < 0 then
          jq_lt (jq_w (t1.2.2 + 1)) fun v12 =>
          some (.inl (t1.2.2, e9, v12))
        
        else
          jq_lt (jq_w (t1.2.2 + 1)) fun v11 =>
          some (.inl (t1.1, t1.2.1, v11))
    )
  
  else
    some (.inr t1.1)
noncomputable def X0_weakestOf (p0 : Int) (σ : jq_M) : Option (Int) :=
  (jq_lp (X0_weakestOf_b7 p0 σ) ((-1), 0, 0)).bind (fun e13 =>
    some e13
  )
noncomputable def X10_weakest (σ : jq_M) : Option (Int × jq_M) :=
  jq_lt (σ 0 7) fun c1 =>
  (X0_weakestOf c1 σ).bind fun v3 =>
  jq_b2 (X10_answerOrNone v3 σ) fun v4 s5 =>
  some (v4, s5)
noncomputable def X10_copySeats_j27  (j8 : Int) (s9 : jq_M) : Option (Int × jq_M) :=
  jq_b2 (X10_refuse j8 s9) fun v10 s11 =>
  some (v10, s11)
noncomputable def X10_copySeats_b36 (v2 : Int) (t12 : Int × jq_M) : Option ((Int × jq_M) ⊕ (jq_M)) :=
  jq_lt (t12.2 0 7) fun c13 =>
  if t12.1 < t12.2 c13 2 then
    jq_lt (t12.2 0 7) fun c15 =>
    if t12.1 < 5 then
      jq_lt (t12.2 0 7) fun c17 =>
      (jq_ld t12.2 (c17 + 3) 5 t12.1).bind fun v19 =>
      (X9_put v2 t12.1 v19 t12.2).bind fun s20 =>
      jq_lt (jq_w (t12.1 + 1)) fun v21 =>
      some (.inl (v21, s20))
    
    else
      some (.inr t12.2)
  
  else
    some (.inr t12.2)
noncomputable def X10_copySeats_j84  (s23 : jq_M) : Option (Int × jq_M) :=
  jq_lt (s23 0 7) fun c24 =>
  jq_b2 (X10_answer (s23 c24 2) s23) fun v26 s27 =>
  some (v26, s27)
noncomputable def X10_copySeats (p1 : Int) (σ : jq_M) : Option (Int × jq_M) :=
  (X10_trayAt p1 σ).bind fun v1 =>
  (jq_trnc v1).bind fun v2 =>
  jq_lt (σ 0 7) fun c4 =>
  (X10_whyNoNumbers v2 0 (σ c4 2) σ).bind fun v6 =>
  if v2 = -1 then
    X10_copySeats_j27 v6 σ
  
  else
    if v6 = 0 then
      (jq_lp (X10_copySeats_b36 v2) (0, σ)).bind (fun e22 =>
        X10_copySeats_j84 e22
      )
    
    else
      X10_copySeats_j27 v6 σ
noncomputable def X10_changeTrialBy_j78 (p1 : Int) (j8 : Int) (j9 : Int) (j10 : Int) (s11 : jq_M) : Option ((Int × Int × jq_M) ⊕ ((jq_M) ⊕ ((jq_M) ⊕ (jq_M)))) :=
  if j10 = (-1) then
    jq_lt (jq_or j8 0) fun v15 =>
    (jq_sa s11 63 5 j9 j10).bind fun s16 =>
    jq_lt (jq_w (j9 + 1)) fun v17 =>
    some (.inl (v15, v17, s16))
  
  else
    jq_lt (jq_or j8 (jq_shl 1 j10)) fun v12 =>
    (jq_sa s11 63 5 j9 j10).bind fun s13 =>
    jq_lt (jq_w (j9 + 1)) fun v14 =>
    some (.inl (v12, v14, s13))
noncomputable def X10_changeTrialBy_b4 (p1 : Int) (t1 : Int × Int × jq_M) : Option ((Int × Int × jq_M) ⊕ ((jq_M) ⊕ ((jq_M) ⊕ (jq_M)))) :=
  jq_lt (t1.2.2 0 7) fun c2 =>
  if t1.2.1 < t1.2.2 c2 2 then
    if t1.2.1 < 5 then
      (X9_numberAt p1 t1.2.1 t1.2.2).bind fun v4 =>
      if jq_cmp v4 (-1) < 0 then
        some (.inr (.inl t1.2.2))
      
      else
        jq_lt (t1.2.2 0 7) fun c5 =>
        if jq_cmp v4 (t1.2.2 c5 0) < 0 then
          jq_lt (jq_w v4) fun v7 =>
          if v7 = (-1) then
            X10_changeTrialBy_j78 p1 t1.1 t1.2.1 v7 t1.2.2
          
          else
            (X10_holds t1.1 v7 t1.2.2).bind fun v18 =>
            if v18 = 0 then
              X10_changeTrialBy_j78 p1 t1.1 t1.2.1 v7 t1.2.2
            
            else
              some (.inr (.inr (.inl t1.2.2)))
        
        else
          some (.inr (.inl t1.2.2))
    
    else
      some (.inr (.inr (.inr t1.2.2)))
  
  else
    some (.inr (.inr (.inr t1.2.2)))
noncomputable def X10_changeTrialBy (p1 : Int) (σ : jq_M) : Option (Int × jq_M) :=
  (jq_lp (X10_changeTrialBy_b4 p1) (0, 0, σ)).bind (Sum.elim (fun e20 =>
    some (0, e20)
  )
    (Sum.elim (fun e21 =>
      some (0, e21)
    )
      (fun e22 =>
        some (1, e22))))
noncomputable def X10_seatBy_j27  (j8 : Int) (s9 : jq_M) : Option (Int × jq_M) :=
  jq_b2 (X10_refuse j8 s9) fun v10 s11 =>
  some (v10, s11)
noncomputable def X10_seatBy (p1 : Int) (σ : jq_M) : Option (Int × jq_M) :=
  (X10_trayAt p1 σ).bind fun v1 =>
  (jq_trnc v1).bind fun v2 =>
  jq_lt (σ 0 7) fun c4 =>
  (X10_whyNoNumbers v2 0 (σ c4 2) σ).bind fun v6 =>
  if v2 = -1 then
    X10_seatBy_j27 v6 σ
  
  else
    if v6 = 0 then
      (X10_layTrial σ).bind fun s12 =>
      jq_b2 (X10_changeTrialBy v2 s12) fun v13 s14 =>
      if v13 = 0 then
        jq_b2 (X10_refuse 5 s14) fun v27 s28 =>
        some (v27, s28)
      
      else
        jq_lt (s14 0 7) fun c16 =>
        (jq_cpy s14 63 5 0 (c16 + 3) 5 0 5).bind fun s18 =>
        jq_lt (s18 0 7) fun c19 =>
        jq_lt (s18 0 7) fun c21 =>
        jq_b2 (X1_signersOf c19 (c21 + 3) s18) fun v23 s24 =>
        jq_b2 (X10_answer v23 s24) fun v25 s26 =>
        some (v25, s26)
    
    else
      X10_seatBy_j27 v6 σ
noncomputable def X7_at (p0 : Int) (p1 : Int) (σ : jq_M) : Option (Int) :=
  if p1 < 0 then
    some (-1)
  
  else
    if p1 < 60 then
      (jq_ld σ p0 60 p1).bind fun v1 =>
      some v1
    
    else
      some (-1)
noncomputable def X7_wordAt (o : Int) (p1 : Int) (σ : jq_M) : Option (Int) :=
  (X7_at (o + 1) p1 σ).bind fun v1 =>
  some v1
noncomputable def X7_mateAt (o : Int) (p1 : Int) (σ : jq_M) : Option (Int) :=
  (X7_at (o + 4) p1 σ).bind fun v1 =>
  some v1
noncomputable def X3_behindEnd (p1 : Int) (p2 : Int) (σ : jq_M) : Option (Int × jq_M) :=
  (X7_mateAt p1 p2 σ).bind fun v1 =>
  (X7_wordAt p1 v1 σ).bind fun v2 =>
  if v2 = 25 then
    if v1 < 0 then
      some (jq_w (p2 + 1), σ)
    
    else
      if v1 < 60 then
        (jq_ld σ 61 60 v1).bind fun v3 =>
        (jq_sa σ 61 60 v1 (jq_w (v3 - 1))).bind fun s4 =>
        (jq_ld s4 61 60 v1).bind fun v5 =>
        if 0 < v5 then
          some (jq_w (v1 + 1), s4)
        
        else
          some (jq_w (p2 + 1), s4)
      
      else
        some (jq_w (p2 + 1), σ)
  
  else
    some (jq_w (p2 + 1), σ)
noncomputable def X7_secondAt (o : Int) (p1 : Int) (σ : jq_M) : Option (Int) :=
  (X7_at (o + 3) p1 σ).bind fun v1 =>
  some v1
noncomputable def X7_firstAt (o : Int) (p1 : Int) (σ : jq_M) : Option (Int) :=
  (X7_at (o + 2) p1 σ).bind fun v1 =>
  some v1
noncomputable def X3_isSo (p1 : Int) (p2 : Int) (σ : jq_M) : Option (Int) :=
  (X7_secondAt (p1 + 13) p2 σ).bind fun v1 =>
  (X7_firstAt (p1 + 13) p2 σ).bind fun v2 =>
  if v2 = 22 then
    (X1_doesSign p1 v1 (p1 + 3) σ).bind fun v4 =>
    some v4
  
  else
    if v2 = 23 then
      (X1_isAgreed p1 v1 σ).bind fun v7 =>
      some v7
    
    else
      if v2 = 60 then
        (X1_worthOfAll p1 (p1 + 3) σ).bind fun v10 =>
        if v10 < v1 then
          some 1
        
        else
          some 0
      
      else
        if v2 = 62 then
          (X1_worthOfAll p1 (p1 + 3) σ).bind fun v12 =>
          if v1 < v12 then
            some 1
          
          else
            some 0
        
        else
          (X1_worthOfAll p1 (p1 + 3) σ).bind fun v13 =>
          if v13 = v1 then
            some 1
          
          else
            some 0
noncomputable def X3_beginLoop (p1 : Int) (p2 : Int) (σ : jq_M) : Option (jq_M) :=
  if p2 < 0 then
    some σ
  
  else
    if p2 < 60 then
      (X7_firstAt p1 p2 σ).bind fun v1 =>
      (jq_sa σ 61 60 p2 v1).bind fun s2 =>
      some s2
    
    else
      some σ
noncomputable def X3_spend (p1 : Int) (p2 : Int) (σ : jq_M) : Option (Int × jq_M) :=
  if jq_w (9999 - p2) < σ p1 6 then
    some (0, σ)
  
  else
    jq_lt (jq_st σ 60 2 (jq_w ((σ 60 2) + p2))) fun s1 =>
    jq_b2 (X1_passDays p1 p2 s1) fun v2 s3 =>
    jq_lt (jq_st s3 60 3 (jq_w ((s1 60 3) + v2))) fun s4 =>
    some (1, s4)
noncomputable def X3_agreeTo (p1 : Int) (p2 : Int) (σ : jq_M) : Option (Int × jq_M) :=
  jq_b2 (X1_agreeOn p1 p2 σ) fun v1 s2 =>
  (X10_asNumber v1 s2).bind fun v4 =>
  jq_lt (jq_st s2 60 3 (jq_w ((s2 60 3) + v4))) fun s5 =>
  some (v1, s5)
noncomputable def X3_letGo (p1 : Int) (p2 : Int) (σ : jq_M) : Option (Int × jq_M) :=
  jq_b2 (X1_letFall p1 p2 σ) fun v1 s2 =>
  jq_lt (jq_st s2 60 4 (jq_w ((s2 60 4) + v1))) fun s3 =>
  if 0 < v1 then
    some (1, s3)
  
  else
    some (0, s3)
noncomputable def X3_draw (p1 : Int) (σ : jq_M) : Option (Int × jq_M) :=
  (jq_rem (jq_w ((jq_w ((σ 60 6) * 3061)) + 11279)) 65536).bind fun v1 =>
  jq_lt (jq_st σ 60 6 v1) fun s2 =>
  if 0 < p1 then
    (jq_div (s2 60 6) 8).bind fun v3 =>
    (jq_rem v3 p1).bind fun v4 =>
    some (v4, s2)
  
  else
    some (0, s2)
noncomputable def X3_seatAny (p1 : Int) (σ : jq_M) : Option (Int × jq_M) :=
  if σ p1 2 = 0 then
    some (0, σ)
  
  else
    jq_b2 (X3_draw (σ p1 2) σ) fun v1 s2 =>
    jq_b2 (X3_draw (s2 p1 0) s2) fun v3 s4 =>
    jq_b2 (X1_seatOne p1 v1 v3 s4) fun v5 s6 =>
    some (v5, s6)
noncomputable def X3_act (p1 : Int) (p2 : Int) (σ : jq_M) : Option (Int × jq_M) :=
  (X7_firstAt (p1 + 13) p2 σ).bind fun v1 =>
  (X7_secondAt (p1 + 13) p2 σ).bind fun v2 =>
  (X7_wordAt (p1 + 13) p2 σ).bind fun v3 =>
  if v3 = 13 then
    jq_b2 (X1_seatOne p1 v1 v2 σ) fun v5 s6 =>
    some (v5, s6)
  
  else
    if v3 = 14 then
      jq_b2 (X1_raiseOne p1 v1 σ) fun v9 s10 =>
      some (v9, s10)
    
    else
      if v3 = 15 then
        jq_b2 (X1_swapTwo p1 v1 v2 (p1 + 3) σ) fun v13 s14 =>
        some (v13, s14)
      
      else
        if v3 = 16 then
          (X1_turnAll p1 v1 (p1 + 3) σ).bind fun s17 =>
          some (1, s17)
        
        else
          if v3 = 17 then
            jq_b2 (X3_spend p1 v1 σ) fun v19 s20 =>
            some (v19, s20)
          
          else
            if v3 = 18 then
              jq_b2 (X3_agreeTo p1 v1 σ) fun v23 s24 =>
              some (v23, s24)
            
            else
              if v3 = 19 then
                jq_b2 (X3_letGo p1 v1 σ) fun v27 s28 =>
                some (v27, s28)
              
              else
                jq_b2 (X3_seatAny p1 σ) fun v30 s31 =>
                some (v30, s31)
noncomputable def X3_run_j209 (p1 : Int) (j27 : Int) (j28 : Int) (j29 : Int) (j30 : Int) (s32 : jq_M) : Option ((Int × Int × jq_M) ⊕ ((jq_M) ⊕ ((jq_M) ⊕ (jq_M)))) :=
  (X10_asNumber j30 s32).bind fun v33 =>
  jq_lt (jq_st s32 60 1 (jq_w (j29 + v33))) fun s34 =>
  jq_lt (jq_w (j27 + 1)) fun v35 =>
  jq_lt (jq_w (j28 + 1)) fun v36 =>
  some (.inl (v35, v36, s34))
noncomputable def X3_run_b40 (p1 : Int) (t8 : Int × Int × jq_M) : Option ((Int × Int × jq_M) ⊕ ((jq_M) ⊕ ((jq_M) ⊕ (jq_M)))) :=
  if t8.2.1 < 1000000 then
    if t8.1 < t8.2.2 (p1 + 13) 2 then
      (X7_wordAt (p1 + 13) t8.1 t8.2.2).bind fun v9 =>
      if v9 = 26 then
        jq_b2 (X3_behindEnd (p1 + 13) t8.1 t8.2.2) fun v37 s38 =>
        jq_lt (jq_w (t8.2.1 + 1)) fun v39 =>
        some (.inl (v37, v39, s38))
      
      else
        if t8.2.2 60 0 = 300 then
          some (.inr (.inl t8.2.2))
        
        else
          jq_lt (jq_st t8.2.2 60 0 (jq_w ((t8.2.2 60 0) + 1))) fun s10 =>
          if v9 = 21 then
            (X3_isSo p1 t8.1 s10).bind fun v12 =>
            if v12 = 0 then
              (X7_mateAt (p1 + 13) t8.1 s10).bind fun v14 =>
              jq_lt (jq_w (v14 + 1)) fun v15 =>
              jq_lt (jq_w (t8.2.1 + 1)) fun v16 =>
              some (.inl (v15, v16, s10))
            
            else
              jq_lt (jq_w (t8.1 + 1)) fun v17 =>
              jq_lt (jq_w (t8.2.1 + 1)) fun v18 =>
              some (.inl (v17, v18, s10))
          
          else
            if v9 = 25 then
              (X3_beginLoop (p1 + 13) t8.1 s10).bind fun s20 =>
              jq_lt (jq_w (t8.1 + 1)) fun v21 =>
              jq_lt (jq_w (t8.2.1 + 1)) fun v22 =>
              some (.inl (v21, v22, s20))
            
            else
              if v9 = 27 then
                some (.inr (.inr (.inl s10)))
              
              else
                jq_b2 (X3_act p1 t8.1 s10) fun v24 s25 =>
                if v24 = 0 then
                  X3_run_j209 p1 t8.1 t8.2.1 (s10 60 1) 1 s25
                
                else
                  X3_run_j209 p1 t8.1 t8.2.1 (s10 60 1) 0 s25
    
    else
      some (.inr (.inr (.inr t8.2.2)))
  
  else
    some (.inr (.inr (.inr t8.2.2)))
noncomputable def X3_run (p1 : Int) (p2 : Int) (σ : jq_M) : Option (jq_M) :=
  jq_lt (jq_st σ 60 0 0) fun s1 =>
  jq_lt (jq_st s1 60 1 0) fun s2 =>
  jq_lt (jq_st s2 60 2 0) fun s3 =>
  jq_lt (jq_st s3 60 3 0) fun s4 =>
  jq_lt (jq_st s4 60 4 0) fun s5 =>
  jq_lt (jq_st s5 60 5 0) fun s6 =>
  jq_lt (jq_st s6 60 6 p2) fun s7 =>
  (jq_lp (X3_run_b40 p1) (0, 0, s7)).bind (Sum.elim (fun e40 =>
    jq_lt (jq_st e40 60 5 1) fun s41 =>
    some s41
  )
    (Sum.elim (fun e42 =>
      some e42
    )
      (fun e43 =>
        some e43)))
noncomputable def X3_tellTo (p1 : Int) (σ : jq_M) : Option (jq_M) :=
  if (5 : Int) = (5 : Int) then
    (jq_sa σ p1 5 0 (σ 60 1)).bind fun s1 =>
    (jq_sa s1 p1 5 1 (s1 60 2)).bind fun s2 =>
    (jq_sa s2 p1 5 2 (s2 60 3)).bind fun s3 =>
    (jq_sa s3 p1 5 3 (s3 60 4)).bind fun s4 =>
    jq_lt (s4 60 5) fun v5 =>
    (X10_asNumber v5 s4).bind fun v7 =>
    (jq_sa s4 p1 5 4 v7).bind fun s8 =>
    some s8
  
  else
    some σ
noncomputable def X10_live (p1 : Int) (σ : jq_M) : Option (Int × jq_M) :=
  (X10_within p1 0 9999 σ).bind fun v1 =>
  if v1 = 0 then
    jq_b2 (X10_refuse 1 σ) fun v16 s17 =>
    some (v16, s17)
  
  else
    jq_lt (σ 0 7) fun c3 =>
    jq_lt (σ (c3 + 13) 0) fun v5 =>
    if v5 = 0 then
      jq_b2 (X10_refuse 6 σ) fun v14 s15 =>
      some (v14, s15)
    
    else
      jq_lt (σ 0 7) fun c7 =>
      (X3_run c7 p1 σ).bind fun s9 =>
      (X3_tellTo 62 s9).bind fun s10 =>
      jq_lt (jq_st s10 0 16 1) fun s11 =>
      jq_b2 (X10_answer (s11 60 0) s11) fun v12 s13 =>
      some (v12, s13)
noncomputable def X10_lived_j13  (s1 : jq_M) : Option (Int × jq_M) :=
  jq_b2 (X10_refuse 1 s1) fun v2 s3 =>
  some (v2, s3)
noncomputable def X10_lived (p1 : Int) (σ : jq_M) : Option (Int × jq_M) :=
  if p1 < 0 then
    X10_lived_j13 σ
  
  else
    if p1 < 5 then
      jq_lt (σ 0 16) fun v4 =>
      if v4 = 0 then
        jq_b2 (X10_refuse 6 σ) fun v6 s7 =>
        some (v6, s7)
      
      else
        (jq_ld σ 62 5 p1).bind fun v8 =>
        jq_b2 (X10_answer v8 σ) fun v9 s10 =>
        some (v9, s10)
    
    else
      X10_lived_j13 σ
noncomputable def X10_mean_j32  (s3 : jq_M) : Option (Int × jq_M) :=
  jq_b2 (X10_deny 1 s3) fun v4 s5 =>
  some (v4, s5)
noncomputable def X10_mean_b63 (p1 : Int) (p2 : Int) (t13 : Int × Int × jq_M) : Option ((Int × Int × jq_M) ⊕ (Int × jq_M)) :=
  if t13.2.1 < p2 then
    jq_lt (t13.2.2 0 8) fun c14 =>
    jq_lt (t13.2.2 0 7) fun c16 =>
    (X1_takeFrom c14 c16 t13.2.2).bind fun s18 =>
    jq_lt (s18 0 8) fun c19 =>
    (X3_run c19 (jq_w (p1 + t13.2.1)) s18).bind fun s21 =>
    jq_lt (s21 0 8) fun c22 =>
    jq_lt (s21 0 8) fun c24 =>
    (X1_worthOfAll c22 (c24 + 3) s21).bind fun v26 =>
    jq_lt (jq_w64 (t13.1 + v26)) fun v27 =>
    jq_lt (jq_w (t13.2.1 + 1)) fun v28 =>
    some (.inl (v27, v28, s21))
  
  else
    some (.inr (t13.1, t13.2.2))
noncomputable def X10_mean (p1 : Int) (p2 : Int) (σ : jq_M) : Option (Int × jq_M) :=
  (X10_within p1 0 9999 σ).bind fun v1 =>
  if v1 = 0 then
    X10_mean_j32 σ
  
  else
    (X10_within p2 1 20 σ).bind fun v7 =>
    if v7 = 0 then
      X10_mean_j32 σ
    
    else
      if jq_w (9999 - (jq_w (p2 - 1))) < p1 then
        X10_mean_j32 σ
      
      else
        jq_lt (σ 0 7) fun c9 =>
        jq_lt (σ (c9 + 13) 0) fun v11 =>
        if v11 = 0 then
          jq_b2 (X10_deny 6 σ) fun v34 s35 =>
          some (v34, s35)
        
        else
          (jq_lp (X10_mean_b63 p1 p2) (0, 0, σ)).bind (fun e29 =>
            (X10_tellFraction e29.1 p2 e29.2).bind fun s30 =>
            jq_b2 (X10_grant s30) fun v31 s32 =>
            some (v31, s32)
          )
noncomputable def X10_keptAt (p1 : Int) (σ : jq_M) : Option (Int) :=
  if p1 < 0 then
    some (-1)
  
  else
    if p1 < 3 then
      (jq_chk p1 3).bind fun i1 =>
      some (72 + 20 * i1)
    
    else
      some (-1)
noncomputable def X10_mark (σ : jq_M) : Option (Int × jq_M) :=
  (X10_keptAt (σ 0 11) σ).bind fun v1 =>
  (jq_cmnc v1).bind fun v2 =>
  if v2 = -1 then
    jq_b2 (X10_refuse 4 σ) fun v11 s12 =>
    some (v11, s12)
  
  else
    jq_lt (σ 0 7) fun c5 =>
    (X1_takeFrom v2 c5 σ).bind fun s7 =>
    jq_lt (jq_st s7 0 11 (jq_w ((s7 0 11) + 1))) fun s8 =>
    jq_b2 (X10_answer (s8 0 11) s8) fun v9 s10 =>
    some (v9, s10)
noncomputable def X10_undo (σ : jq_M) : Option (Int × jq_M) :=
  (X10_keptAt (jq_w ((σ 0 11) - 1)) σ).bind fun v1 =>
  (jq_cmnc v1).bind fun v2 =>
  if v2 = -1 then
    jq_b2 (X10_refuse 6 σ) fun v11 s12 =>
    some (v11, s12)
  
  else
    jq_lt (jq_st σ 0 11 (jq_w ((σ 0 11) - 1))) fun s5 =>
    jq_lt (s5 0 7) fun c6 =>
    (X1_takeFrom c6 v2 s5).bind fun s8 =>
    jq_b2 (X10_answer (s8 0 11) s8) fun v9 s10 =>
    some (v9, s10)
noncomputable def X11_plain_b2 (p1 : Int) (t1 : Int × jq_M) : Option ((Int × jq_M) ⊕ (jq_M)) :=
  if t1.1 < 506 then
    (jq_sa t1.2 1 3174 (jq_w (p1 + t1.1)) 0).bind fun s2 =>
    jq_lt (jq_w (t1.1 + 1)) fun v3 =>
    some (.inl (v3, s2))
  
  else
    some (.inr t1.2)
noncomputable def X11_plain (p1 : Int) (σ : jq_M) : Option (jq_M) :=
  (jq_lp (X11_plain_b2 p1) (0, σ)).bind (fun e4 =>
    (jq_sa e4 1 3174 (jq_w (p1 + 6)) (-1)).bind fun s5 =>
    some s5
  )
noncomputable def X11_status (σ : jq_M) : Option (Int) :=
  some (σ 0 2)
noncomputable def X11_top (σ : jq_M) : Option (Int) :=
  some (σ 0 3)
noncomputable def X11_bottom (σ : jq_M) : Option (Int) :=
  some (σ 0 4)
noncomputable def X11_is (p1 : Int) (σ : jq_M) : Option (Int × jq_M) :=
  jq_lt (jq_st σ 0 2 p1) fun s1 =>
  if p1 = 0 then
    some (1, s1)
  
  else
    some (0, s1)
noncomputable def X11_refuse (p1 : Int) (σ : jq_M) : Option (Int × jq_M) :=
  jq_lt (jq_st σ 0 2 p1) fun s1 =>
  some ((-1), s1)
noncomputable def X11_gives (p1 : Int) (σ : jq_M) : Option (Int × jq_M) :=
  jq_lt (jq_st σ 0 2 0) fun s1 =>
  some (p1, s1)
noncomputable def X11_orNone (p1 : Int) (σ : jq_M) : Option (Int × jq_M) :=
  if p1 = (-1) then
    jq_b2 (X11_refuse 6 σ) fun v3 s4 =>
    some (v3, s4)
  
  else
    jq_b2 (X11_gives p1 σ) fun v1 s2 =>
    some (v1, s2)
noncomputable def X11_tellsBy_b17  (t3 : Int × Int) : Option ((Int × Int) ⊕ (Int)) :=
  if jq_cmp t3.2 0 = 0 then
    some (.inr t3.1)
  
  else
    (jq_lrem t3.1 t3.2).bind fun v4 =>
    some (.inl (t3.2, v4))
noncomputable def X11_tellsBy_j12 (p1 : Int) (p3 : Int) (j1 : Int) (s2 : jq_M) : Option (Int × jq_M) :=
  (jq_lp (X11_tellsBy_b17) (j1, p3)).bind (fun e5 =>
    (jq_ldiv p1 e5).bind fun v6 =>
    jq_lt (jq_st s2 0 3 v6) fun s7 =>
    (jq_ldiv p3 e5).bind fun v8 =>
    jq_lt (jq_st s7 0 4 v8) fun s9 =>
    jq_b2 (X11_is 0 s9) fun v10 s11 =>
    some (v10, s11)
  )
noncomputable def X11_tellsBy (p1 : Int) (p3 : Int) (σ : jq_M) : Option (Int × jq_M) :=
  if jq_cmp p1 0 < 0 then
    X11_tellsBy_j12 p1 p3 (jq_w64 (-p1)) σ
  
  else
    X11_tellsBy_j12 p1 p3 p1 σ
noncomputable def X11_isTray (p0 : Int) (σ : jq_M) : Option (Int) :=
  if p0 < 0 then
    some 0
  
  else
    if p0 < 4 then
      some 1
    
    else
      some 0
noncomputable def X11_cut (p0 : Int) (p2 : Int) (σ : jq_M) : Option (Int) :=
  if p2 = 0 then
    some (jq_w8 (jq_w p0))
  
  else
    if p2 = 1 then
      some (jq_w16 (jq_w p0))
    
    else
      if p2 = 2 then
        some (jq_w p0)
      
      else
        some p0
noncomputable def X11_tray_j26  (s3 : jq_M) : Option (Int × jq_M) :=
  jq_b2 (X11_is 1 s3) fun v4 s5 =>
  some (v4, s5)
noncomputable def X11_tray_b49 (p1 : Int) (p3 : Int) (t9 : Int × jq_M) : Option ((Int × jq_M) ⊕ (jq_M)) :=
  if t9.1 < p3 then
    (jq_sa t9.2 5 240 (jq_w ((jq_w (60 * p1)) + t9.1)) 0).bind fun s10 =>
    jq_lt (jq_w (t9.1 + 1)) fun v11 =>
    some (.inl (v11, s10))
  
  else
    some (.inr t9.2)
noncomputable def X11_tray (p1 : Int) (p2 : Int) (p3 : Int) (σ : jq_M) : Option (Int × jq_M) :=
  (X11_isTray p1 σ).bind fun v1 =>
  if v1 = 0 then
    X11_tray_j26 σ
  
  else
    if p2 < 0 then
      X11_tray_j26 σ
    
    else
      if 3 < p2 then
        X11_tray_j26 σ
      
      else
        if p3 < 0 then
          X11_tray_j26 σ
        
        else
          if 60 < p3 then
            X11_tray_j26 σ
          
          else
            (jq_sa σ 3 4 p1 p2).bind fun s7 =>
            (jq_sa s7 4 4 p1 p3).bind fun s8 =>
            (jq_lp (X11_tray_b49 p1 p3) (0, s8)).bind (fun e12 =>
              jq_b2 (X11_is 0 e12) fun v13 s14 =>
              some (v13, s14)
            )
noncomputable def X11_wrongPlace (p1 : Int) (p2 : Int) (σ : jq_M) : Option (Int) :=
  (X11_isTray p1 σ).bind fun v1 =>
  if v1 = 0 then
    some 1
  
  else
    (jq_ld σ 4 4 p1).bind fun v3 =>
    if v3 = (-1) then
      some 2
    
    else
      if p2 < 0 then
        some 3
      
      else
        (jq_ld σ 4 4 p1).bind fun v4 =>
        if p2 < v4 then
          some 0
        
        else
          some 3
noncomputable def X11_write_j34  (j2 : Int) (s3 : jq_M) : Option (Int × jq_M) :=
  jq_b2 (X11_is j2 s3) fun v4 s5 =>
  some (v4, s5)
noncomputable def X11_write (p1 : Int) (p2 : Int) (p3 : Int) (σ : jq_M) : Option (Int × jq_M) :=
  (X11_wrongPlace p1 p2 σ).bind fun v1 =>
  if v1 = 0 then
    (jq_ld σ 3 4 p1).bind fun v7 =>
    (X11_cut p3 v7 σ).bind fun v8 =>
    (jq_sa σ 5 240 (jq_w ((jq_w (60 * p1)) + p2)) v8).bind fun s9 =>
    X11_write_j34 v1 s9
  
  else
    X11_write_j34 v1 σ
noncomputable def X11_read (p1 : Int) (p2 : Int) (σ : jq_M) : Option (Int × jq_M) :=
  (X11_wrongPlace p1 p2 σ).bind fun v1 =>
  jq_lt (jq_st σ 0 2 v1) fun s2 =>
  if 0 < s2 0 2 then
    some ((-1), s2)
  
  else
    (jq_ld s2 5 240 (jq_w ((jq_w (60 * p1)) + p2))).bind fun v3 =>
    some (v3, s2)
noncomputable def X11_pour_j28  (s3 : jq_M) : Option (Int × jq_M) :=
  jq_b2 (X11_is 1 s3) fun v4 s5 =>
  some (v4, s5)
noncomputable def X11_pour_j54  (s10 : jq_M) : Option (Int × jq_M) :=
  jq_b2 (X11_is 2 s10) fun v11 s12 =>
  some (v11, s12)
noncomputable def X11_pour_j109  (s18 : jq_M) : Option (Int × jq_M) :=
  jq_b2 (X11_is 3 s18) fun v19 s20 =>
  some (v19, s20)
noncomputable def X11_pour_j143 (p1 : Int) (p2 : Int) (p3 : Int) (p4 : Int) (p5 : Int) (j24 : Int) (j25 : Int) (s26 : jq_M) : Option ((Int × jq_M) ⊕ (jq_M)) :=
  (jq_ld s26 5 240 (jq_w ((jq_w ((jq_w (60 * p1)) + p2)) + j25))).bind fun v27 =>
  (jq_sa s26 5 240 (jq_w ((jq_w ((jq_w (60 * p3)) + p4)) + j25)) v27).bind fun s28 =>
  jq_lt (jq_w (j24 + 1)) fun v29 =>
  some (.inl (v29, s28))
noncomputable def X11_pour_b118 (p1 : Int) (p2 : Int) (p3 : Int) (p4 : Int) (p5 : Int) (t23 : Int × jq_M) : Option ((Int × jq_M) ⊕ (jq_M)) :=
  if t23.1 < p5 then
    if p2 < p4 then
      X11_pour_j143 p1 p2 p3 p4 p5 t23.1 (jq_w ((jq_w (p5 - 1)) - t23.1)) t23.2
    
    else
      X11_pour_j143 p1 p2 p3 p4 p5 t23.1 t23.1 t23.2
  
  else
    some (.inr t23.2)
noncomputable def X11_pour (p1 : Int) (p2 : Int) (p3 : Int) (p4 : Int) (p5 : Int) (σ : jq_M) : Option (Int × jq_M) :=
  (X11_isTray p1 σ).bind fun v1 =>
  if v1 = 0 then
    X11_pour_j28 σ
  
  else
    (X11_isTray p3 σ).bind fun v7 =>
    if v7 = 0 then
      X11_pour_j28 σ
    
    else
      if p2 < 0 then
        X11_pour_j28 σ
      
      else
        if p4 < 0 then
          X11_pour_j28 σ
        
        else
          if p5 < 0 then
            X11_pour_j28 σ
          
          else
            (jq_ld σ 4 4 p1).bind fun v9 =>
            if v9 = (-1) then
              X11_pour_j54 σ
            
            else
              (jq_ld σ 4 4 p3).bind fun v14 =>
              if v14 = (-1) then
                X11_pour_j54 σ
              
              else
                (jq_ld σ 3 4 p1).bind fun v15 =>
                (jq_ld σ 3 4 p3).bind fun v16 =>
                if v15 = v16 then
                  (jq_ld σ 4 4 p1).bind fun v17 =>
                  if jq_w (v17 - p2) < p5 then
                    X11_pour_j109 σ
                  
                  else
                    (jq_ld σ 4 4 p3).bind fun v22 =>
                    if jq_w (v22 - p4) < p5 then
                      X11_pour_j109 σ
                    
                    else
                      (jq_lp (X11_pour_b118 p1 p2 p3 p4 p5) (0, σ)).bind (fun e30 =>
                        jq_b2 (X11_is 0 e30) fun v31 s32 =>
                        some (v31, s32)
                      )
                
                else
                  jq_b2 (X11_is 8 σ) fun v34 s35 =>
                  some (v34, s35)
noncomputable def X11_isFrom (p0 : Int) (p2 : Int) (p4 : Int) (σ : jq_M) : Option (Int) :=
  if jq_cmp p0 p2 < 0 then
    some 0
  
  else
    if 0 < jq_cmp p0 p4 then
      some 0
    
    else
      some 1
noncomputable def X11_four_b3 (p1 : Int) (t1 : Int × jq_M) : Option ((Int × jq_M) ⊕ (jq_M)) :=
  if t1.1 < 0 then
    some (.inr t1.2)
  
  else
    (jq_sb t1.2 6 900 (t1.2 0 10) (jq_w8 (jq_shr p1 t1.1))).bind fun s2 =>
    jq_lt (jq_st s2 0 10 (jq_w ((s2 0 10) + 1))) fun s3 =>
    jq_lt (jq_w (t1.1 + (-8))) fun v4 =>
    some (.inl (v4, s3))
noncomputable def X11_four (p1 : Int) (σ : jq_M) : Option (jq_M) :=
  (jq_lp (X11_four_b3 p1) (24, σ)).bind (fun e5 =>
    some e5
  )
noncomputable def X11_feed (p1 : Int) (p2 : Int) (p3 : Int) (p4 : Int) (p5 : Int) (σ : jq_M) : Option (Int × jq_M) :=
  if 900 < jq_w ((σ 0 10) + 20) then
    some ((-1), σ)
  
  else
    (X11_four p1 σ).bind fun s1 =>
    (X11_four p2 s1).bind fun s2 =>
    (X11_four p3 s2).bind fun s3 =>
    (X11_four p4 s3).bind fun s4 =>
    (X11_four p5 s4).bind fun s5 =>
    some (s5 0 10, s5)
noncomputable def X11_byteAt (p1 : Int) (σ : jq_M) : Option (Int) :=
  if p1 < σ 0 11 then
    (jq_ld σ 7 900 p1).bind fun v1 =>
    some (jq_and v1 255)
  
  else
    some (-1)
noncomputable def X11_isSmall (p0 : Int) (σ : jq_M) : Option (Int) :=
  if p0 < 97 then
    some 0
  
  else
    if 122 < p0 then
      some 0
    
    else
      some 1
noncomputable def X11_isDigit (p0 : Int) (σ : jq_M) : Option (Int) :=
  if p0 < 48 then
    some 0
  
  else
    if 57 < p0 then
      some 0
    
    else
      some 1
noncomputable def X11_ahead_b0  (t1 : jq_M) : Option ((jq_M) ⊕ (jq_M)) :=
  (X11_byteAt (t1 0 14) t1).bind fun v2 =>
  if v2 = 32 then
    jq_lt (jq_st t1 0 14 (jq_w ((t1 0 14) + 1))) fun s3 =>
    some (.inl s3)
  
  else
    (X11_byteAt (t1 0 14) t1).bind fun v4 =>
    if v4 = 10 then
      jq_lt (jq_st t1 0 14 (jq_w ((t1 0 14) + 1))) fun s5 =>
      some (.inl s5)
    
    else
      some (.inr t1)
noncomputable def X11_ahead_b128  (t21 : jq_M) : Option ((jq_M) ⊕ (jq_M)) :=
  (X11_byteAt (t21 0 14) t21).bind fun v22 =>
  (X11_isDigit v22 t21).bind fun v23 =>
  if v23 = 0 then
    some (.inr t21)
  
  else
    (X11_byteAt (t21 0 14) t21).bind fun v25 =>
    jq_lt (jq_st t21 0 15 (jq_min 100000 (jq_w ((jq_w ((jq_w (10 * (t21 0 15))) + v25)) - 48)))) fun s26 =>
    jq_lt (jq_st s26 0 14 (jq_w ((s26 0 14) + 1))) fun s27 =>
    some (.inl s27)
noncomputable def X11_ahead_b81  (t31 : jq_M) : Option ((jq_M) ⊕ (jq_M)) :=
  (X11_byteAt (t31 0 14) t31).bind fun v32 =>
  (X11_isSmall v32 t31).bind fun v33 =>
  if v33 = 0 then
    some (.inr t31)
  
  else
    jq_lt (jq_st t31 0 14 (jq_w ((t31 0 14) + 1))) fun s35 =>
    some (.inl s35)
noncomputable def X11_ahead (σ : jq_M) : Option (jq_M) :=
  (jq_lp (X11_ahead_b0) σ).bind (fun e6 =>
    jq_lt (jq_st e6 0 13 (e6 0 14)) fun s7 =>
    (X11_byteAt (s7 0 14) s7).bind fun v8 =>
    jq_lt (jq_st s7 0 15 v8) fun s9 =>
    if v8 = (-1) then
      jq_lt (jq_st s9 0 12 0) fun s38 =>
      some s38
    
    else
      (X11_isSmall v8 s9).bind fun v10 =>
      if v10 = 0 then
        (X11_isDigit v8 s9).bind fun v12 =>
        if v12 = 0 then
          jq_lt (jq_st s9 0 14 (jq_w ((s9 0 14) + 1))) fun s14 =>
          if v8 = 59 then
            jq_lt (jq_st s14 0 12 4) fun s15 =>
            some s15
          
          else
            if v8 = 60 then
              jq_lt (jq_st s14 0 12 4) fun s16 =>
              some s16
            
            else
              if v8 = 62 then
                jq_lt (jq_st s14 0 12 4) fun s17 =>
                some s17
              
              else
                if v8 = 61 then
                  jq_lt (jq_st s14 0 12 4) fun s19 =>
                  some s19
                
                else
                  jq_lt (jq_st s14 0 12 1) fun s18 =>
                  some s18
        
        else
          jq_lt (jq_st s9 0 15 0) fun s20 =>
          (jq_lp (X11_ahead_b128) s20).bind (fun e28 =>
            if 4 < jq_w ((e28 0 14) - (e28 0 13)) then
              jq_lt (jq_st e28 0 12 1) fun s30 =>
              some s30
            
            else
              jq_lt (jq_st e28 0 12 3) fun s29 =>
              some s29
          )
      
      else
        (jq_lp (X11_ahead_b81) s9).bind (fun e36 =>
          jq_lt (jq_st e36 0 12 2) fun s37 =>
          some s37
        )
  )
noncomputable def X11_isSign (p1 : Int) (σ : jq_M) : Option (Int) :=
  if σ 0 12 = 4 then
    if σ 0 15 = p1 then
      some 1
    
    else
      some 0
  
  else
    some 0
noncomputable def J0_coder_7d493 (Z : jq_Z) (σ : jq_M) : Option (Int) :=
  if (1 : Int) = (0 : Int) then
    some 1
  
  else
    some 0
noncomputable def J0_length_8abf5 (Z : jq_Z) (σ : jq_M) : Option (Int) :=
  (J0_coder_7d493 Z σ).bind fun v1 =>
  some (jq_shr (jq_sln Z) v1)
noncomputable def J0_isLatin1_aae02 (Z : jq_Z) (σ : jq_M) : Option (Int) :=
  if (1 : Int) = (0 : Int) then
    some 0
  
  else
    if (0 : Int) = (0 : Int) then
      some 1
    
    else
      some 0
noncomputable def J3_checkIndex_8e157_j9 (p0 : Int) (p1 : Int) (σ : jq_M)  : Option (Int) :=
  none
noncomputable def J3_checkIndex_8e157 (Z : jq_Z) (p0 : Int) (p1 : Int) (σ : jq_M) : Option (Int) :=
  if p0 < 0 then
    J3_checkIndex_8e157_j9 p0 p1 σ
  
  else
    if p0 < p1 then
      some p0
    
    else
      J3_checkIndex_8e157_j9 p0 p1 σ
noncomputable def J0_checkIndex_df160 (Z : jq_Z) (p0 : Int) (p1 : Int) (σ : jq_M) : Option (Int) :=
  (J3_checkIndex_8e157 Z p0 p1 σ).bind fun v1 =>
  some 0
noncomputable def J1_charAt_3b067 (Z : jq_Z) (p1 : Int) (σ : jq_M) : Option (Int) :=
  (J0_checkIndex_df160 Z p1 (jq_sln Z) σ).bind fun v1 =>
  (jq_sch Z p1).bind fun v2 =>
  some (jq_and v2 255)
noncomputable def J0_charAt_5068e (Z : jq_Z) (p1 : Int) (σ : jq_M) : Option (Int) :=
  (J0_isLatin1_aae02 Z σ).bind fun v1 =>
  if v1 = 0 then
    none
  
  else
    (J1_charAt_3b067 Z p1 σ).bind fun v3 =>
    (jq_blc v3).bind fun v4 =>
    some v4
noncomputable def X11_inWords_b25 (σ : jq_M) (t3 : Int) : Option ((Int) ⊕ (Int)) :=
  (J0_charAt_5068e jq_zM t3 σ).bind fun v4 =>
  if v4 = 32 then
    some (.inr t3)
  
  else
    jq_lt (jq_w (t3 + 1)) fun v5 =>
    some (.inl v5)
noncomputable def X11_inWords_b68 (σ : jq_M) (j8 : Int) (j9 : Int) (t12 : Int × Int) : Option ((Int × Int) ⊕ (Int)) :=
  if t12.2 < j9 then
    if t12.1 = 0 then
      some (.inr t12.1)
    
    else
      (J0_charAt_5068e jq_zM t12.2 σ).bind fun v13 =>
      (X11_byteAt (jq_w ((jq_w ((σ 0 13) + t12.2)) - j8)) σ).bind fun v14 =>
      if v13 = v14 then
        jq_lt (jq_w (t12.2 + 1)) fun v16 =>
        some (.inl (1, v16))
      
      else
        jq_lt (jq_w (t12.2 + 1)) fun v15 =>
        some (.inl (0, v15))
  
  else
    some (.inr t12.1)
noncomputable def X11_inWords_j115 (σ : jq_M) (j18 : Int) (j19 : Int) (j20 : Int) : Option ((Int × Int) ⊕ ((Int) ⊕ (Unit))) :=
  if j20 = 0 then
    jq_lt (jq_w (j18 + 1)) fun v21 =>
    jq_lt (jq_w (j19 + 1)) fun v22 =>
    some (.inl (v21, v22))
  
  else
    some (.inr (.inl j18))
noncomputable def X11_inWords_j63 (σ : jq_M) (j7 : Int) (j8 : Int) (j9 : Int) (j10 : Int) : Option ((Int × Int) ⊕ ((Int) ⊕ (Unit))) :=
  (jq_lp (X11_inWords_b68 σ j8 j9) (j10, j8)).bind (fun e17 =>
    X11_inWords_j115 σ j7 j9 e17
  )
noncomputable def X11_inWords_b14 (σ : jq_M) (t1 : Int × Int) : Option ((Int × Int) ⊕ ((Int) ⊕ (Unit))) :=
  (J0_length_8abf5 jq_zM σ).bind fun v2 =>
  if t1.2 < v2 then
    (jq_lp (X11_inWords_b25 σ) t1.2).bind (fun e6 =>
      if jq_w (e6 - t1.2) = jq_w ((σ 0 14) - (σ 0 13)) then
        X11_inWords_j63 σ t1.1 t1.2 e6 1
      
      else
        X11_inWords_j63 σ t1.1 t1.2 e6 0
    )
  
  else
    some (.inr (.inr ()))
noncomputable def X11_inWords (σ : jq_M) : Option (Int) :=
  if σ 0 12 = 2 then
    (jq_lp (X11_inWords_b14 σ) (0, 1)).bind (Sum.elim (fun e23 =>
      some e23
    )
      (fun e24 =>
        some (-1)))
  
  else
    some (-1)
noncomputable def X11_fails (p1 : Int) (σ : jq_M) : Option (Int × jq_M) :=
  if σ 0 18 = 0 then
    if σ 0 12 = 1 then
      jq_lt (jq_st σ 0 18 1) fun s3 =>
      jq_lt (jq_st s3 0 17 (s3 0 13)) fun s4 =>
      some (0, s4)
    
    else
      jq_lt (jq_st σ 0 18 p1) fun s1 =>
      jq_lt (jq_st s1 0 17 (s1 0 13)) fun s2 =>
      some (0, s2)
  
  else
    some (0, σ)
noncomputable def X11_begins_b26 (p1 : Int) (t2 : Int × jq_M) : Option ((Int × jq_M) ⊕ (jq_M)) :=
  if t2.1 < p1 then
    (jq_ld t2.2 6 900 t2.1).bind fun v3 =>
    (jq_sb t2.2 7 900 t2.1 v3).bind fun s4 =>
    jq_lt (jq_w (t2.1 + 1)) fun v5 =>
    some (.inl (v5, s4))
  
  else
    some (.inr t2.2)
noncomputable def X11_begins (p1 : Int) (p2 : Int) (σ : jq_M) : Option (Int × jq_M) :=
  if p1 < 0 then
    some (0, σ)
  
  else
    if σ 0 10 < p1 then
      some (0, σ)
    
    else
      if p2 < p1 then
        some (0, σ)
      
      else
        jq_lt (jq_st σ 0 11 p1) fun s1 =>
        (jq_lp (X11_begins_b26 p1) (0, s1)).bind (fun e6 =>
          jq_lt (jq_st e6 0 10 0) fun s7 =>
          jq_lt (jq_st s7 0 18 0) fun s8 =>
          jq_lt (jq_st s8 0 17 (-1)) fun s9 =>
          jq_lt (jq_st s9 0 14 0) fun s10 =>
          jq_lt (jq_st s10 0 19 0) fun s11 =>
          (X11_ahead s11).bind fun s12 =>
          some (1, s12)
        )
noncomputable def X11_wantSign (p1 : Int) (σ : jq_M) : Option (Int × jq_M) :=
  (X11_isSign p1 σ).bind fun v1 =>
  if v1 = 0 then
    jq_b2 (X11_fails 2 σ) fun v4 s5 =>
    some (v4, s5)
  
  else
    (X11_ahead σ).bind fun s3 =>
    some (1, s3)
noncomputable def X11_wantWord (p2 : Int) (σ : jq_M) : Option (Int × jq_M) :=
  (X11_inWords σ).bind fun v1 =>
  if v1 = p2 then
    (X11_ahead σ).bind fun s2 =>
    some (1, s2)
  
  else
    jq_b2 (X11_fails 2 σ) fun v3 s4 =>
    some (v3, s4)
noncomputable def X11_number_j30  (s1 : jq_M) : Option (Int × jq_M) :=
  jq_b2 (X11_fails 4 s1) fun v2 s3 =>
  some (v2, s3)
noncomputable def X11_number (p1 : Int) (p2 : Int) (p3 : Int) (σ : jq_M) : Option (Int × jq_M) :=
  if σ 0 12 = 3 then
    if σ 0 15 < p2 then
      X11_number_j30 σ
    
    else
      if p3 < σ 0 15 then
        X11_number_j30 σ
      
      else
        (jq_sa σ 1 3174 p1 (σ 0 15)).bind fun s5 =>
        (X11_ahead s5).bind fun s6 =>
        some (1, s6)
  
  else
    jq_b2 (X11_fails 2 σ) fun v7 s8 =>
    some (v7, s8)
noncomputable def X11_isName (σ : jq_M) : Option (Int) :=
  if σ 0 12 = 2 then
    if 8 < jq_w ((σ 0 14) - (σ 0 13)) then
      some 0
    
    else
      (X11_inWords σ).bind fun v1 =>
      if v1 = (-1) then
        some 1
      
      else
        some 0
  
  else
    some 0
noncomputable def X11_nameHere_b7 (σ : jq_M) (t2 : Int × Int) : Option ((Int × Int) ⊕ (Int)) :=
  if t2.2 < σ 0 14 then
    (X11_byteAt t2.2 σ).bind fun v3 =>
    jq_lt (jq_lorl (jq_shll t2.1 8) v3) fun v4 =>
    jq_lt (jq_w (t2.2 + 1)) fun v5 =>
    some (.inl (v4, v5))
  
  else
    some (.inr t2.1)
noncomputable def X11_nameHere (σ : jq_M) : Option (Int) :=
  jq_lt (σ 0 13) fun v1 =>
  (jq_lp (X11_nameHere_b7 σ) (0, v1)).bind (fun e6 =>
    some e6
  )
noncomputable def X11_findHere_b2 (p1 : Int) (p2 : Int) (σ : jq_M) (t1 : Int) : Option ((Int) ⊕ ((Int) ⊕ (Unit))) :=
  if t1 < p2 then
    (jq_ld σ 2 78 (jq_w (p1 + t1))).bind fun v2 =>
    (X11_nameHere σ).bind fun v3 =>
    if jq_cmp v2 v3 = 0 then
      some (.inr (.inl t1))
    
    else
      jq_lt (jq_w (t1 + 1)) fun v4 =>
      some (.inl v4)
  
  else
    some (.inr (.inr ()))
noncomputable def X11_findHere (p1 : Int) (p2 : Int) (σ : jq_M) : Option (Int) :=
  (jq_lp (X11_findHere_b2 p1 p2 σ) 0).bind (Sum.elim (fun e5 =>
    some e5
  )
    (fun e6 =>
      some (-1)))
noncomputable def X11_fault (p1 : Int) (σ : jq_M) : Option (Int) :=
  if p1 = 0 then
    some (σ 0 16)
  
  else
    if p1 = 1 then
      some (σ 0 17)
    
    else
      some (-1)
noncomputable def X11_taken (p1 : Int) (σ : jq_M) : Option (Int × jq_M) :=
  jq_lt (jq_st σ 0 16 (σ 0 18)) fun s1 =>
  if 0 < s1 0 18 then
    jq_b2 (X11_refuse 9 s1) fun v4 s5 =>
    some (v4, s5)
  
  else
    jq_b2 (X11_gives p1 s1) fun v2 s3 =>
    some (v2, s3)
noncomputable def X11_isThere (p1 : Int) (σ : jq_M) : Option (Int × jq_M) :=
  (X11_inWords σ).bind fun v1 =>
  if v1 = p1 then
    (X11_ahead σ).bind fun s2 =>
    some (1, s2)
  
  else
    some (0, σ)
noncomputable def X11_newOne_j76  (s7 : jq_M) : Option (Int × jq_M) :=
  jq_b2 (X11_fails 3 s7) fun v8 s9 =>
  some (v8, s9)
noncomputable def X11_newOne (p1 : Int) (p2 : Int) (p3 : Int) (σ : jq_M) : Option (Int × jq_M) :=
  (jq_ld σ 1 3174 (jq_w (2024 + p1))).bind fun v1 =>
  if v1 < p2 then
    (X11_ahead σ).bind fun s2 =>
    (X11_isName s2).bind fun v3 =>
    if v3 = 0 then
      jq_b2 (X11_fails 2 s2) fun v17 s18 =>
      some (v17, s18)
    
    else
      (jq_ld s2 1 3174 2025).bind fun v5 =>
      (X11_findHere 52 v5 s2).bind fun v6 =>
      if v6 = (-1) then
        (jq_ld s2 1 3174 2027).bind fun v11 =>
        (X11_findHere 57 v11 s2).bind fun v12 =>
        if v12 = (-1) then
          (jq_ld s2 1 3174 (jq_w (2024 + p1))).bind fun v13 =>
          (X11_nameHere s2).bind fun v14 =>
          (jq_sa s2 2 78 (jq_w ((jq_w (52 + p3)) + v13)) v14).bind fun s15 =>
          (X11_ahead s15).bind fun s16 =>
          some (1, s16)
        
        else
          X11_newOne_j76 s2
      
      else
        X11_newOne_j76 s2
  
  else
    jq_b2 (X11_fails 6 σ) fun v20 s21 =>
    some (v20, s21)
noncomputable def X11_partyTo (p1 : Int) (σ : jq_M) : Option (Int × jq_M) :=
  (X11_isName σ).bind fun v1 =>
  if v1 = 0 then
    jq_b2 (X11_fails 2 σ) fun v11 s12 =>
    some (v11, s12)
  
  else
    (jq_ld σ 1 3174 2025).bind fun v3 =>
    (X11_findHere 52 v3 σ).bind fun v4 =>
    (jq_sa σ 1 3174 p1 v4).bind fun s5 =>
    (jq_ld s5 1 3174 p1).bind fun v6 =>
    if v6 = (-1) then
      jq_b2 (X11_fails 3 s5) fun v8 s9 =>
      some (v8, s9)
    
    else
      (X11_ahead s5).bind fun s7 =>
      some (1, s7)
noncomputable def X11_aParty_j163  (s16 : jq_M) : Option (Int × jq_M) :=
  (jq_ld s16 1 3174 2025).bind fun v17 =>
  (jq_sa s16 1 3174 2025 (jq_w (v17 + 1))).bind fun s18 =>
  some (1, s18)
noncomputable def X11_aParty_b80 (s14 : jq_M) (t19 : Int) : Option ((Int) ⊕ ((Unit) ⊕ (Unit))) :=
  (jq_ld s14 1 3174 2025).bind fun v20 =>
  if t19 < v20 then
    if s14 0 12 = 3 then
      (jq_ld s14 1 3174 (jq_w ((jq_w (2032 + (jq_w (2 * t19)))) + 1))).bind fun v22 =>
      if v22 = s14 0 15 then
        if s14 0 15 < 0 then
          jq_lt (jq_w (t19 + 1)) fun v24 =>
          some (.inl v24)
        
        else
          some (.inr (.inl ()))
      
      else
        jq_lt (jq_w (t19 + 1)) fun v23 =>
        some (.inl v23)
    
    else
      jq_lt (jq_w (t19 + 1)) fun v21 =>
      some (.inl v21)
  
  else
    some (.inr (.inr ()))
noncomputable def X11_aParty_j69  (j11 : Int) (s12 : jq_M) : Option (Int × jq_M) :=
  jq_b2 (X11_isThere 7 s12) fun v13 s14 =>
  if v13 = 0 then
    X11_aParty_j163 s14
  
  else
    (jq_lp (X11_aParty_b80 s14) 0).bind (Sum.elim (fun e25 =>
      jq_b2 (X11_fails 5 s14) fun v26 s27 =>
      some (v26, s27)
    )
      (fun e29 =>
        (jq_ld s14 1 3174 2024).bind fun v30 =>
        jq_b2 (X11_number (jq_w (j11 + 1)) 0 (jq_w (v30 - 1)) s14) fun v31 s32 =>
        if v31 = 0 then
          some (0, s32)
        
        else
          X11_aParty_j163 s32))
noncomputable def X11_aParty (σ : jq_M) : Option (Int × jq_M) :=
  (jq_ld σ 1 3174 2025).bind fun v1 =>
  jq_lt (jq_w (2032 + (jq_w (2 * v1)))) fun v2 =>
  (jq_ld σ 1 3174 2024).bind fun v3 =>
  jq_b2 (X11_newOne 1 (jq_min 5 v3) 0 σ) fun v4 s5 =>
  if v4 = 0 then
    some (0, s5)
  
  else
    (jq_sa s5 1 3174 (jq_w (v2 + 1)) (-1)).bind fun s7 =>
    jq_b2 (X11_isThere 6 s7) fun v8 s9 =>
    if v8 = 0 then
      X11_aParty_j69 v2 s9
    
    else
      jq_b2 (X11_number v2 0 50 s9) fun v34 s35 =>
      if v34 = 0 then
        some (0, s35)
      
      else
        X11_aParty_j69 v2 s35
noncomputable def X11_aWish_j220  (j30 : Int) (j31 : Int) (j32 : Int) (s33 : jq_M) : Option (Int × jq_M) :=
  (jq_sa s33 1 3174 j30 (jq_w (j31 * j32))).bind fun s34 =>
  (jq_ld s34 1 3174 2026).bind fun v35 =>
  (jq_sa s34 1 3174 2026 (jq_w (v35 + 1))).bind fun s36 =>
  some (1, s36)
noncomputable def X11_aWish_j176 (p1 : Int) (j20 : Int) (s21 : jq_M) : Option (Int × jq_M) :=
  jq_b2 (X11_wantWord 10 s21) fun v22 s23 =>
  if v22 = 0 then
    some (0, s23)
  
  else
    jq_b2 (X11_number (jq_w (j20 + 3)) 1 9 s23) fun v25 s26 =>
    if v25 = 0 then
      some (0, s26)
    
    else
      jq_lt (jq_w (j20 + 3)) fun v28 =>
      (jq_ld s26 1 3174 v28).bind fun v29 =>
      if p1 = 0 then
        X11_aWish_j220 v28 v29 (-1) s26
      
      else
        X11_aWish_j220 v28 v29 1 s26
noncomputable def X11_aWish_j164 (p1 : Int) (j39 : Int) (s40 : jq_M) : Option (Int × jq_M) :=
  jq_b2 (X11_partyTo (jq_w (j39 + 2)) s40) fun v41 s42 =>
  if v41 = 0 then
    some (0, s42)
  
  else
    X11_aWish_j176 p1 j39 s42
noncomputable def X11_aWish_j107 (p1 : Int) (j12 : Int) (j13 : Int) (j14 : Int) (j15 : Int) (s16 : jq_M) : Option (Int × jq_M) :=
  (jq_sa s16 1 3174 j14 j15).bind fun s17 =>
  (jq_sa s17 1 3174 (jq_w (j12 + 2)) (-1)).bind fun s18 =>
  (X11_ahead s18).bind fun s19 =>
  if j13 = 1 then
    X11_aWish_j176 p1 j12 s19
  
  else
    (X11_isName s19).bind fun v37 =>
    if v37 = 0 then
      X11_aWish_j164 p1 j12 s19
    
    else
      (jq_ld s19 1 3174 2025).bind fun v44 =>
      (X11_findHere 52 v44 s19).bind fun v45 =>
      (jq_ld s19 1 3174 j12).bind fun v46 =>
      if v45 = v46 then
        jq_b2 (X11_fails 5 s19) fun v47 s48 =>
        some (v47, s48)
      
      else
        X11_aWish_j164 p1 j12 s19
noncomputable def X11_aWish_j79 (p1 : Int) (j9 : Int) (j10 : Int) (s11 : jq_M) : Option (Int × jq_M) :=
  if j10 = 8 then
    X11_aWish_j107 p1 j9 j10 (jq_w (j9 + 1)) 0 s11
  
  else
    if j10 = 9 then
      X11_aWish_j107 p1 j9 j10 (jq_w (j9 + 1)) 1 s11
    
    else
      X11_aWish_j107 p1 j9 j10 (jq_w (j9 + 1)) 2 s11
noncomputable def X11_aWish (p1 : Int) (σ : jq_M) : Option (Int × jq_M) :=
  (jq_ld σ 1 3174 2026).bind fun v1 =>
  jq_lt (jq_w (2042 + (jq_w (4 * v1)))) fun v2 =>
  (jq_ld σ 1 3174 2026).bind fun v3 =>
  if v3 = 20 then
    jq_b2 (X11_fails 6 σ) fun v53 s54 =>
    some (v53, s54)
  
  else
    (X11_ahead σ).bind fun s4 =>
    jq_b2 (X11_partyTo v2 s4) fun v5 s6 =>
    if v5 = 0 then
      some (0, s6)
    
    else
      (X11_inWords s6).bind fun v8 =>
      if v8 = 8 then
        X11_aWish_j79 p1 v2 v8 s6
      
      else
        if v8 = 9 then
          X11_aWish_j79 p1 v2 v8 s6
        
        else
          if v8 = 1 then
            X11_aWish_j79 p1 v2 v8 s6
          
          else
            jq_b2 (X11_fails 2 s6) fun v50 s51 =>
            some (v50, s51)
noncomputable def X11_anArticle_b84 (j16 : Int) (t18 : jq_M) : Option ((jq_M) ⊕ ((jq_M) ⊕ ((jq_M) ⊕ (jq_M)))) :=
  (X11_isName t18).bind fun v19 =>
  if v19 = 0 then
    some (.inr (.inr (.inr t18)))
  
  else
    (jq_ld t18 1 3174 2027).bind fun v21 =>
    (X11_findHere 57 v21 t18).bind fun v22 =>
    if v22 = (-1) then
      some (.inr (.inl t18))
    
    else
      (jq_ld t18 1 3174 (jq_w (j16 + 2))).bind fun v23 =>
      if jq_and (jq_shr v23 v22) 1 = 1 then
        some (.inr (.inr (.inl t18)))
      
      else
        jq_lt (jq_w (j16 + 2)) fun v24 =>
        (jq_ld t18 1 3174 v24).bind fun v25 =>
        (jq_sa t18 1 3174 v24 (jq_or v25 (jq_shl 1 v22))).bind fun s26 =>
        (X11_ahead s26).bind fun s27 =>
        some (.inl s27)
noncomputable def X11_anArticle_j84  (j16 : Int) (s17 : jq_M) : Option (Int × jq_M) :=
  (jq_lp (X11_anArticle_b84 j16) s17).bind (Sum.elim (fun e28 =>
    jq_b2 (X11_fails 3 e28) fun v29 s30 =>
    some (v29, s30)
  )
    (Sum.elim (fun e32 =>
      jq_b2 (X11_fails 5 e32) fun v33 s34 =>
      some (v33, s34)
    )
      (fun e36 =>
        (jq_ld e36 1 3174 2027).bind fun v37 =>
        (jq_sa e36 1 3174 2027 (jq_w (v37 + 1))).bind fun s38 =>
        some (1, s38))))
noncomputable def X11_anArticle (σ : jq_M) : Option (Int × jq_M) :=
  (jq_ld σ 1 3174 2027).bind fun v1 =>
  jq_lt (jq_w (2122 + (jq_w (5 * v1)))) fun v2 =>
  jq_b2 (X11_newOne 3 8 5 σ) fun v3 s4 =>
  if v3 = 0 then
    some (0, s4)
  
  else
    jq_b2 (X11_wantWord 11 s4) fun v6 s7 =>
    if v6 = 0 then
      some (0, s7)
    
    else
      jq_b2 (X11_number v2 1 30 s7) fun v9 s10 =>
      if v9 = 0 then
        some (0, s10)
      
      else
        (jq_sa s10 1 3174 (jq_w (v2 + 1)) 16).bind fun s12 =>
        jq_b2 (X11_isThere 12 s12) fun v13 s14 =>
        if v13 = 0 then
          X11_anArticle_j84 v2 s14
        
        else
          jq_b2 (X11_number (jq_w (v2 + 1)) 0 16 s14) fun v39 s40 =>
          if v39 = 0 then
            some (0, s40)
          
          else
            X11_anArticle_j84 v2 s40
noncomputable def X11_committeePart_j37  (s2 : jq_M) : Option (Int × jq_M) :=
  jq_b2 (X11_fails 2 s2) fun v3 s4 =>
  some (v3, s4)
noncomputable def X11_committeePart_j197  (j17 : Int) (s18 : jq_M) : Option (Int × jq_M) :=
  if j17 = 0 then
    some (0, s18)
  
  else
    jq_b2 (X11_wantSign 59 s18) fun v19 s20 =>
    if v19 = 0 then
      some (0, s20)
    
    else
      some (1, s20)
noncomputable def X11_committeePart_j43  (j9 : Int) (s10 : jq_M) : Option (Int × jq_M) :=
  if j9 = 0 then
    (jq_ld s10 1 3174 2024).bind fun v12 =>
    if 0 < v12 then
      jq_b2 (X11_fails 5 s10) fun v22 s23 =>
      some (v22, s23)
    
    else
      (X11_ahead s10).bind fun s13 =>
      jq_b2 (X11_number 2024 3 6 s13) fun v14 s15 =>
      X11_committeePart_j197 v14 s15
  
  else
    if j9 = 1 then
      (X11_ahead s10).bind fun s26 =>
      (jq_ld s26 1 3174 2024).bind fun v27 =>
      jq_b2 (X11_number 2522 0 (jq_w (v27 - 1)) s26) fun v28 s29 =>
      if v28 = 0 then
        X11_committeePart_j197 v28 s29
      
      else
        (jq_ld s29 1 3174 2029).bind fun v31 =>
        (jq_ld s29 1 3174 2522).bind fun v32 =>
        (jq_sa s29 1 3174 2029 (jq_or v31 (jq_shl 1 v32))).bind fun s33 =>
        X11_committeePart_j197 v28 s33
    
    else
      if j9 = 2 then
        jq_b2 (X11_aParty s10) fun v35 s36 =>
        X11_committeePart_j197 v35 s36
      
      else
        if j9 = 3 then
          jq_b2 (X11_aWish 1 s10) fun v39 s40 =>
          X11_committeePart_j197 v39 s40
        
        else
          if j9 = 4 then
            jq_b2 (X11_aWish 0 s10) fun v43 s44 =>
            X11_committeePart_j197 v43 s44
          
          else
            jq_b2 (X11_anArticle s10) fun v46 s47 =>
            X11_committeePart_j197 v46 s47
noncomputable def X11_committeePart_j26  (j6 : Int) (s7 : jq_M) : Option (Int × jq_M) :=
  (jq_ld s7 1 3174 2024).bind fun v8 =>
  if v8 = 0 then
    X11_committeePart_j37 s7
  
  else
    X11_committeePart_j43 j6 s7
noncomputable def X11_committeePart (σ : jq_M) : Option (Int × jq_M) :=
  (X11_inWords σ).bind fun v1 =>
  if v1 < 0 then
    X11_committeePart_j37 σ
  
  else
    if 5 < v1 then
      X11_committeePart_j37 σ
    
    else
      if v1 = 1 then
        X11_committeePart_j26 v1 σ
      
      else
        if v1 = 2 then
          X11_committeePart_j26 v1 σ
        
        else
          X11_committeePart_j43 v1 σ
noncomputable def X11_committee_b26  (t5 : Int × jq_M) : Option ((Int × jq_M) ⊕ (jq_M)) :=
  if t5.1 = 0 then
    some (.inr t5.2)
  
  else
    if t5.2 0 12 = 0 then
      some (.inr t5.2)
    
    else
      jq_b2 (X11_committeePart t5.2) fun v6 s7 =>
      some (.inl (v6, s7))
noncomputable def X11_committee_j112  (s11 : jq_M) : Option (Int × jq_M) :=
  (jq_ld s11 1 3174 2).bind fun v12 =>
  jq_b2 (X11_taken v12 s11) fun v13 s14 =>
  some (v13, s14)
noncomputable def X11_committee_b54  (t15 : Int × jq_M) : Option ((Int × jq_M) ⊕ (jq_M)) :=
  if t15.1 < 506 then
    (jq_ld t15.2 1 3174 (jq_w (2024 + t15.1))).bind fun v16 =>
    (jq_sa t15.2 1 3174 t15.1 v16).bind fun s17 =>
    jq_lt (jq_w (t15.1 + 1)) fun v18 =>
    some (.inl (v18, s17))
  
  else
    some (.inr t15.2)
noncomputable def X11_committee_b85  (t20 : Int × jq_M) : Option ((Int × jq_M) ⊕ (jq_M)) :=
  if t20.1 < 13 then
    (jq_ld t20.2 2 78 (jq_w (52 + t20.1))).bind fun v21 =>
    (jq_sa t20.2 2 78 t20.1 v21).bind fun s22 =>
    jq_lt (jq_w (t20.1 + 1)) fun v23 =>
    some (.inl (v23, s22))
  
  else
    some (.inr t20.2)
noncomputable def X11_committee_j45  (s10 : jq_M) : Option (Int × jq_M) :=
  if s10 0 18 = 0 then
    (jq_lp (X11_committee_b54) (0, s10)).bind (fun e19 =>
      (jq_lp (X11_committee_b85) (0, e19)).bind (fun e24 =>
        X11_committee_j112 e24
      )
    )
  
  else
    X11_committee_j112 s10
noncomputable def X11_committee (p1 : Int) (σ : jq_M) : Option (Int × jq_M) :=
  jq_b2 (X11_begins p1 900 σ) fun v1 s2 =>
  if v1 = 0 then
    jq_b2 (X11_refuse 1 s2) fun v25 s26 =>
    some (v25, s26)
  
  else
    (X11_plain 2024 s2).bind fun s4 =>
    (jq_lp (X11_committee_b26) (1, s4)).bind (fun e9 =>
      X11_committee_j45 e9
    )
noncomputable def X11_oldOne (p1 : Int) (p2 : Int) (p3 : Int) (σ : jq_M) : Option (Int × jq_M) :=
  (X11_isName σ).bind fun v1 =>
  if v1 = 0 then
    jq_b2 (X11_fails 2 σ) fun v10 s11 =>
    some (v10, s11)
  
  else
    (X11_findHere p1 p2 σ).bind fun v3 =>
    (jq_sa σ 1 3174 p3 v3).bind fun s4 =>
    (jq_ld s4 1 3174 p3).bind fun v5 =>
    if v5 = (-1) then
      jq_b2 (X11_fails 3 s4) fun v7 s8 =>
      some (v7, s8)
    
    else
      (X11_ahead s4).bind fun s6 =>
      some (1, s6)
noncomputable def X11_oldParty (p1 : Int) (σ : jq_M) : Option (Int × jq_M) :=
  (jq_ld σ 1 3174 1).bind fun v1 =>
  jq_b2 (X11_oldOne 0 v1 p1 σ) fun v2 s3 =>
  some (v2, s3)
noncomputable def X11_oldArticle (p1 : Int) (σ : jq_M) : Option (Int × jq_M) :=
  (jq_ld σ 1 3174 3).bind fun v1 =>
  jq_b2 (X11_oldOne 5 v1 p1 σ) fun v2 s3 =>
  some (v2, s3)
noncomputable def X11_test_j95 (p1 : Int) (s6 : jq_M) : Option (Int × jq_M) :=
  (jq_sa s6 1 3174 (jq_w (p1 + 5)) (s6 0 15)).bind fun s7 =>
  (X11_ahead s7).bind fun s8 =>
  jq_b2 (X11_number (jq_w (p1 + 2)) 0 999 s8) fun v9 s10 =>
  some (v9, s10)
noncomputable def X11_test (p1 : Int) (σ : jq_M) : Option (Int × jq_M) :=
  (X11_inWords σ).bind fun v1 =>
  if v1 < 25 then
    jq_b2 (X11_fails 2 σ) fun v25 s26 =>
    some (v25, s26)
  
  else
    (jq_sa σ 1 3174 p1 (jq_w (2100 + v1))).bind fun s2 =>
    (X11_ahead s2).bind fun s3 =>
    if v1 = 25 then
      jq_b2 (X11_oldParty (jq_w (p1 + 1)) s3) fun v22 s23 =>
      some (v22, s23)
    
    else
      if v1 = 26 then
        jq_b2 (X11_oldArticle (jq_w (p1 + 1)) s3) fun v19 s20 =>
        some (v19, s20)
      
      else
        (X11_isSign 60 s3).bind fun v4 =>
        if v4 = 0 then
          (X11_isSign 62 s3).bind fun v12 =>
          if v12 = 0 then
            (X11_isSign 61 s3).bind fun v14 =>
            if v14 = 0 then
              jq_b2 (X11_fails 2 s3) fun v16 s17 =>
              some (v16, s17)
            
            else
              X11_test_j95 p1 s3
          
          else
            X11_test_j95 p1 s3
        
        else
          X11_test_j95 p1 s3
noncomputable def X11_sessionOrder (p1 : Int) (p2 : Int) (σ : jq_M) : Option (Int × jq_M) :=
  if p1 = 13 then
    jq_b2 (X11_oldParty (jq_w (p2 + 1)) σ) fun v2 s3 =>
    if v2 = 0 then
      some (0, s3)
    
    else
      (jq_ld s3 1 3174 0).bind fun v5 =>
      jq_b2 (X11_number (jq_w (p2 + 2)) 0 (jq_w (v5 - 1)) s3) fun v6 s7 =>
      if v6 = 0 then
        some (0, s7)
      
      else
        some (1, s7)
  
  else
    if p1 = 14 then
      jq_b2 (X11_oldParty (jq_w (p2 + 1)) σ) fun v10 s11 =>
      some (v10, s11)
    
    else
      if p1 = 15 then
        jq_b2 (X11_oldParty (jq_w (p2 + 1)) σ) fun v14 s15 =>
        if v14 = 0 then
          some (0, s15)
        
        else
          jq_b2 (X11_oldParty (jq_w (p2 + 2)) s15) fun v17 s18 =>
          if v17 = 0 then
            some (0, s18)
          
          else
            some (1, s18)
      
      else
        if p1 = 16 then
          jq_b2 (X11_number (jq_w (p2 + 1)) 0 9 σ) fun v21 s22 =>
          some (v21, s22)
        
        else
          if p1 = 17 then
            jq_b2 (X11_number (jq_w (p2 + 1)) 1 20 σ) fun v25 s26 =>
            some (v25, s26)
          
          else
            if p1 = 18 then
              jq_b2 (X11_oldArticle (jq_w (p2 + 1)) σ) fun v29 s30 =>
              some (v29, s30)
            
            else
              if p1 = 19 then
                jq_b2 (X11_oldArticle (jq_w (p2 + 1)) σ) fun v33 s34 =>
                some (v33, s34)
              
              else
                if p1 = 20 then
                  some (1, σ)
                
                else
                  if p1 = 21 then
                    jq_b2 (X11_test p2 σ) fun v38 s39 =>
                    some (v38, s39)
                  
                  else
                    if p1 = 22 then
                      jq_b2 (X11_number (jq_w (p2 + 1)) 1 99 σ) fun v42 s43 =>
                      some (v42, s43)
                    
                    else
                      some (1, σ)
noncomputable def X11_sessionStep_j69  (s10 : jq_M) : Option (Int × jq_M) :=
  jq_b2 (X11_fails 2 s10) fun v11 s12 =>
  some (v11, s12)
noncomputable def X11_sessionStep_b147 (j31 : Int) (t39 : Int × jq_M) : Option ((Int × jq_M) ⊕ (jq_M)) :=
  if t39.1 < 6 then
    (jq_sa t39.2 1 3174 (jq_w (j31 + t39.1)) 0).bind fun s40 =>
    jq_lt (jq_w (t39.1 + 1)) fun v41 =>
    some (.inl (v41, s40))
  
  else
    some (.inr t39.2)
noncomputable def X11_sessionStep_j279  (s53 : jq_M) : Option (Int × jq_M) :=
  jq_b2 (X11_wantSign 59 s53) fun v54 s55 =>
  some (v54, s55)
noncomputable def X11_sessionStep_j222  (j49 : Int) (j50 : Int) (j51 : Int) (s52 : jq_M) : Option (Int × jq_M) :=
  if j49 = 23 then
    jq_lt (jq_st s52 0 21 (jq_w ((s52 0 21) - 1))) fun s57 =>
    (jq_ld s57 8 3 (s57 0 21)).bind fun v58 =>
    (jq_sa s57 1 3174 (jq_w (j51 + 4)) v58).bind fun s59 =>
    (jq_ld s59 8 3 (s59 0 21)).bind fun v60 =>
    (jq_sa s59 1 3174 (jq_w ((jq_w (2162 + (jq_w (6 * v60)))) + 4)) j50).bind fun s61 =>
    X11_sessionStep_j279 s61
  
  else
    X11_sessionStep_j279 s52
noncomputable def X11_sessionStep_j133  (j29 : Int) (j30 : Int) (j31 : Int) (j32 : Int) (j33 : Int) (j34 : Int) (s36 : jq_M) : Option (Int × jq_M) :=
  jq_lt (jq_st s36 0 22 (jq_w (j33 + j34))) fun s37 =>
  (jq_sa s37 1 3174 j31 j29).bind fun s38 =>
  (jq_lp (X11_sessionStep_b147 j31) (1, s38)).bind (fun e42 =>
    (jq_ld e42 1 3174 2030).bind fun v43 =>
    (jq_sa e42 1 3174 2030 (jq_w (v43 + 1))).bind fun s44 =>
    (X11_ahead s44).bind fun s45 =>
    jq_b2 (X11_sessionOrder j29 j31 s45) fun v46 s47 =>
    if v46 = 0 then
      some (0, s47)
    
    else
      if j32 = 0 then
        X11_sessionStep_j222 j29 j30 j31 s47
      
      else
        (jq_sa s47 8 3 (s47 0 21) j30).bind fun s62 =>
        jq_lt (jq_st s62 0 21 (jq_w ((s62 0 21) + 1))) fun s63 =>
        X11_sessionStep_j222 j29 j30 j31 s63
  )
noncomputable def X11_sessionStep_j117  (j24 : Int) (j25 : Int) (j26 : Int) (j27 : Int) (s28 : jq_M) : Option (Int × jq_M) :=
  if j24 = 23 then
    X11_sessionStep_j133 j24 j25 j26 j27 (s28 0 22) 0 s28
  
  else
    X11_sessionStep_j133 j24 j25 j26 j27 (s28 0 22) 1 s28
noncomputable def X11_sessionStep_j97  (j19 : Int) (j20 : Int) (j21 : Int) (j22 : Int) (s23 : jq_M) : Option (Int × jq_M) :=
  if j22 = 0 then
    X11_sessionStep_j117 j19 j20 j21 j22 s23
  
  else
    if s23 0 21 = 3 then
      jq_b2 (X11_fails 7 s23) fun v64 s65 =>
      some (v64, s65)
    
    else
      X11_sessionStep_j117 j19 j20 j21 j22 s23
noncomputable def X11_sessionStep_j75  (j14 : Int) (j15 : Int) (j16 : Int) (j17 : Int) (s18 : jq_M) : Option (Int × jq_M) :=
  if j14 = 23 then
    X11_sessionStep_j97 j14 j15 j16 j17 s18
  
  else
    if s18 0 22 = 30 then
      jq_b2 (X11_fails 6 s18) fun v67 s68 =>
      some (v67, s68)
    
    else
      X11_sessionStep_j97 j14 j15 j16 j17 s18
noncomputable def X11_sessionStep_j42  (j4 : Int) (j5 : Int) (j6 : Int) (j7 : Int) (s9 : jq_M) : Option (Int × jq_M) :=
  if j4 < 13 then
    X11_sessionStep_j69 s9
  
  else
    if 24 < j4 then
      X11_sessionStep_j69 s9
    
    else
      if j4 = 23 then
        if s9 0 21 = 0 then
          X11_sessionStep_j69 s9
        
        else
          X11_sessionStep_j75 j4 j5 j6 j7 s9
      
      else
        X11_sessionStep_j75 j4 j5 j6 j7 s9
noncomputable def X11_sessionStep (σ : jq_M) : Option (Int × jq_M) :=
  (X11_inWords σ).bind fun v1 =>
  (jq_ld σ 1 3174 2030).bind fun v2 =>
  jq_lt (jq_w (2162 + (jq_w (6 * v2)))) fun v3 =>
  if v1 = 21 then
    X11_sessionStep_j42 v1 v2 v3 1 σ
  
  else
    if v1 = 22 then
      X11_sessionStep_j42 v1 v2 v3 1 σ
    
    else
      X11_sessionStep_j42 v1 v2 v3 0 σ
noncomputable def X11_sessions_b38  (t7 : Int × jq_M) : Option ((Int × jq_M) ⊕ (jq_M)) :=
  if t7.1 = 0 then
    some (.inr t7.2)
  
  else
    if t7.2 0 12 = 0 then
      some (.inr t7.2)
    
    else
      jq_b2 (X11_sessionStep t7.2) fun v8 s9 =>
      some (.inl (v8, s9))
noncomputable def X11_sessions_j132  (s14 : jq_M) : Option (Int × jq_M) :=
  jq_b2 (X11_taken (s14 0 22) s14) fun v15 s16 =>
  some (v15, s16)
noncomputable def X11_sessions_b103  (t19 : Int × jq_M) : Option ((Int × jq_M) ⊕ (jq_M)) :=
  if t19.1 < 498 then
    (jq_ld t19.2 1 3174 (jq_w (2024 + t19.1))).bind fun v20 =>
    (jq_sa t19.2 1 3174 t19.1 v20).bind fun s21 =>
    jq_lt (jq_w (t19.1 + 1)) fun v22 =>
    some (.inl (v22, s21))
  
  else
    some (.inr t19.2)
noncomputable def X11_sessions_j77  (s13 : jq_M) : Option (Int × jq_M) :=
  if s13 0 18 = 0 then
    (jq_ld s13 1 3174 2030).bind fun v17 =>
    (jq_sa s13 1 3174 6 v17).bind fun s18 =>
    (jq_lp (X11_sessions_b103) (138, s18)).bind (fun e23 =>
      X11_sessions_j132 e23
    )
  
  else
    X11_sessions_j132 s13
noncomputable def X11_sessions_j57  (s12 : jq_M) : Option (Int × jq_M) :=
  if s12 0 18 = 0 then
    if 0 < s12 0 21 then
      jq_b2 (X11_fails 2 s12) fun v24 s25 =>
      X11_sessions_j77 s25
    
    else
      X11_sessions_j77 s12
  
  else
    X11_sessions_j77 s12
noncomputable def X11_sessions (p1 : Int) (σ : jq_M) : Option (Int × jq_M) :=
  jq_b2 (X11_begins p1 300 σ) fun v1 s2 =>
  if v1 = 0 then
    jq_b2 (X11_refuse 1 s2) fun v27 s28 =>
    some (v27, s28)
  
  else
    (jq_sa s2 1 3174 2030 0).bind fun s4 =>
    jq_lt (jq_st s4 0 21 0) fun s5 =>
    jq_lt (jq_st s5 0 22 0) fun s6 =>
    (jq_lp (X11_sessions_b38) (1, s6)).bind (fun e11 =>
      X11_sessions_j57 e11
    )
noncomputable def X11_partyRow (p0 : Int) (σ : jq_M) : Option (Int) :=
  some (jq_w (8 + (jq_w (2 * p0))))
noncomputable def X11_wishRow (p0 : Int) (σ : jq_M) : Option (Int) :=
  some (jq_w (18 + (jq_w (4 * p0))))
noncomputable def X11_articleRow (p0 : Int) (σ : jq_M) : Option (Int) :=
  some (jq_w (98 + (jq_w (5 * p0))))
noncomputable def X11_isPlace (p1 : Int) (σ : jq_M) : Option (Int) :=
  if p1 < 0 then
    some 0
  
  else
    (jq_ld σ 1 3174 0).bind fun v1 =>
    if p1 < v1 then
      some 1
    
    else
      some 0
noncomputable def X11_isParty (p1 : Int) (σ : jq_M) : Option (Int) :=
  if p1 < 0 then
    some 0
  
  else
    (jq_ld σ 1 3174 1).bind fun v1 =>
    if p1 < v1 then
      some 1
    
    else
      some 0
noncomputable def X11_areTwo (p1 : Int) (p2 : Int) (σ : jq_M) : Option (Int) :=
  (X11_isParty p1 σ).bind fun v1 =>
  if v1 = 0 then
    some 0
  
  else
    (X11_isParty p2 σ).bind fun v3 =>
    if v3 = 0 then
      some 0
    
    else
      if p1 = p2 then
        some 0
      
      else
        some 1
noncomputable def X11_isArticle (p1 : Int) (σ : jq_M) : Option (Int) :=
  if p1 < 0 then
    some 0
  
  else
    (jq_ld σ 1 3174 3).bind fun v1 =>
    if p1 < v1 then
      some 1
    
    else
      some 0
noncomputable def X11_isIn (p1 : Int) (p2 : Int) (σ : jq_M) : Option (Int) :=
  if jq_and (jq_shr p1 p2) 1 = 1 then
    some 1
  
  else
    some 0
noncomputable def X11_bits_b4  (t1 : Int × Int) : Option ((Int × Int) ⊕ (Int)) :=
  if t1.2 = 0 then
    some (.inr t1.1)
  
  else
    jq_lt (jq_w (t1.1 + 1)) fun v2 =>
    jq_lt (jq_and t1.2 (jq_w (t1.2 - 1))) fun v3 =>
    some (.inl (v2, v3))
noncomputable def X11_bits (p0 : Int) (σ : jq_M) : Option (Int) :=
  (jq_lp (X11_bits_b4) (0, p0)).bind (fun e4 =>
    some e4
  )
noncomputable def X11_seatOf (p1 : Int) (σ : jq_M) : Option (Int) :=
  (X11_partyRow p1 σ).bind fun v1 =>
  (jq_ld σ 1 3174 (jq_w (v1 + 1))).bind fun v2 =>
  some v2
noncomputable def X11_leastOf (p1 : Int) (σ : jq_M) : Option (Int) :=
  (X11_partyRow p1 σ).bind fun v1 =>
  (jq_ld σ 1 3174 v1).bind fun v2 =>
  some v2
noncomputable def X11_seatsNow_b2  (t1 : Int × jq_M) : Option ((Int × jq_M) ⊕ (jq_M)) :=
  (jq_ld t1.2 1 3174 1).bind fun v2 =>
  if t1.1 < v2 then
    (X11_seatOf t1.1 t1.2).bind fun v3 =>
    (jq_sa t1.2 9 5 t1.1 v3).bind fun s4 =>
    jq_lt (jq_w (t1.1 + 1)) fun v5 =>
    some (.inl (v5, s4))
  
  else
    some (.inr t1.2)
noncomputable def X11_seatsNow (σ : jq_M) : Option (jq_M) :=
  (jq_lp (X11_seatsNow_b2) (0, σ)).bind (fun e6 =>
    some e6
  )
noncomputable def X11_areBeside (p1 : Int) (p2 : Int) (σ : jq_M) : Option (Int) :=
  jq_lt (jq_abs (jq_w (p1 - p2))) fun v1 =>
  if v1 = 1 then
    some 1
  
  else
    (jq_ld σ 1 3174 0).bind fun v2 =>
    if v1 = jq_w (v2 - 1) then
      some 1
    
    else
      some 0
noncomputable def X11_areFacing (p1 : Int) (p2 : Int) (σ : jq_M) : Option (Int) :=
  (jq_ld σ 1 3174 0).bind fun v1 =>
  if jq_w (2 * (jq_abs (jq_w (p1 - p2)))) = v1 then
    some 1
  
  else
    some 0
noncomputable def X11_isHad (p1 : Int) (σ : jq_M) : Option (Int) :=
  (X11_wishRow p1 σ).bind fun v1 =>
  (jq_ld σ 1 3174 v1).bind fun v2 =>
  (jq_ld σ 9 5 v2).bind fun v3 =>
  if v3 = (-1) then
    some 0
  
  else
    (jq_ld σ 1 3174 (jq_w (v1 + 1))).bind fun v4 =>
    if v4 = 2 then
      (jq_ld σ 1 3174 5).bind fun v12 =>
      (X11_isIn v12 v3 σ).bind fun v13 =>
      some v13
    
    else
      (jq_ld σ 1 3174 (jq_w (v1 + 2))).bind fun v5 =>
      (jq_ld σ 9 5 v5).bind fun v6 =>
      if v6 = (-1) then
        some 0
      
      else
        (jq_ld σ 1 3174 (jq_w (v1 + 1))).bind fun v7 =>
        if v7 = 0 then
          (X11_areBeside v3 v6 σ).bind fun v10 =>
          if v10 = 0 then
            some 0
          
          else
            some 1
        
        else
          (X11_areFacing v3 v6 σ).bind fun v8 =>
          if v8 = 0 then
            some 0
          
          else
            some 1
noncomputable def X11_worthOf_b4 (p1 : Int) (σ : jq_M) (t1 : Int × Int) : Option ((Int × Int) ⊕ (Int)) :=
  (jq_ld σ 1 3174 2).bind fun v2 =>
  if t1.2 < v2 then
    (X11_wishRow t1.2 σ).bind fun v3 =>
    (jq_ld σ 1 3174 v3).bind fun v4 =>
    if v4 = p1 then
      (X11_isHad t1.2 σ).bind fun v7 =>
      if v7 = 0 then
        jq_lt (jq_w (t1.1 + 0)) fun v9 =>
        jq_lt (jq_w (t1.2 + 1)) fun v10 =>
        some (.inl (v9, v10))
      
      else
        (X11_wishRow t1.2 σ).bind fun v11 =>
        (jq_ld σ 1 3174 (jq_w (v11 + 3))).bind fun v12 =>
        jq_lt (jq_w (t1.1 + v12)) fun v13 =>
        jq_lt (jq_w (t1.2 + 1)) fun v14 =>
        some (.inl (v13, v14))
    
    else
      jq_lt (jq_w (t1.1 + 0)) fun v5 =>
      jq_lt (jq_w (t1.2 + 1)) fun v6 =>
      some (.inl (v5, v6))
  
  else
    some (.inr t1.1)
noncomputable def X11_worthOf (p1 : Int) (σ : jq_M) : Option (Int) :=
  (jq_lp (X11_worthOf_b4 p1 σ) (0, 0)).bind (fun e15 =>
    some e15
  )
noncomputable def X11_worthOfAll_b4 (σ : jq_M) (t1 : Int × Int) : Option ((Int × Int) ⊕ (Int)) :=
  (jq_ld σ 1 3174 2).bind fun v2 =>
  if t1.2 < v2 then
    (X11_isHad t1.2 σ).bind fun v3 =>
    if v3 = 0 then
      jq_lt (jq_w (t1.1 + 0)) fun v5 =>
      jq_lt (jq_w (t1.2 + 1)) fun v6 =>
      some (.inl (v5, v6))
    
    else
      (X11_wishRow t1.2 σ).bind fun v7 =>
      (jq_ld σ 1 3174 (jq_w (v7 + 3))).bind fun v8 =>
      jq_lt (jq_w (t1.1 + v8)) fun v9 =>
      jq_lt (jq_w (t1.2 + 1)) fun v10 =>
      some (.inl (v9, v10))
  
  else
    some (.inr t1.1)
noncomputable def X11_worthOfAll (σ : jq_M) : Option (Int) :=
  (jq_lp (X11_worthOfAll_b4 σ) (0, 0)).bind (fun e11 =>
    some e11
  )
noncomputable def X11_doesSign (p1 : Int) (σ : jq_M) : Option (Int) :=
  (X11_worthOf p1 σ).bind fun v1 =>
  (X11_leastOf p1 σ).bind fun v2 =>
  if v1 < v2 then
    some 0
  
  else
    some 1
noncomputable def X11_signing_b4 (σ : jq_M) (t1 : Int × Int) : Option ((Int × Int) ⊕ (Int)) :=
  (jq_ld σ 1 3174 1).bind fun v2 =>
  if t1.2 < v2 then
    (X11_doesSign t1.2 σ).bind fun v3 =>
    if v3 = 0 then
      jq_lt (jq_or t1.1 0) fun v5 =>
      jq_lt (jq_w (t1.2 + 1)) fun v6 =>
      some (.inl (v5, v6))
    
    else
      jq_lt (jq_or t1.1 (jq_shl 1 t1.2)) fun v7 =>
      jq_lt (jq_w (t1.2 + 1)) fun v8 =>
      some (.inl (v7, v8))
  
  else
    some (.inr t1.1)
noncomputable def X11_signing (σ : jq_M) : Option (Int) :=
  (jq_lp (X11_signing_b4 σ) (0, 0)).bind (fun e9 =>
    some e9
  )
noncomputable def X11_everybody (σ : jq_M) : Option (Int) :=
  (jq_ld σ 1 3174 1).bind fun v1 =>
  some (jq_w ((jq_shl 1 v1) - 1))
noncomputable def X11_fishing_b4 (σ : jq_M) (t1 : Int × Int) : Option ((Int × Int) ⊕ (Int)) :=
  (jq_ld σ 1 3174 1).bind fun v2 =>
  if t1.2 < v2 then
    (X11_leastOf t1.2 σ).bind fun v3 =>
    (X11_worthOf t1.2 σ).bind fun v4 =>
    jq_lt (jq_w (t1.1 + (jq_max 0 (jq_w (v3 - v4))))) fun v5 =>
    jq_lt (jq_w (t1.2 + 1)) fun v6 =>
    some (.inl (v5, v6))
  
  else
    some (.inr t1.1)
noncomputable def X11_fishing (σ : jq_M) : Option (Int) :=
  (jq_lp (X11_fishing_b4 σ) (0, 0)).bind (fun e7 =>
    some e7
  )
noncomputable def X11_isAgreed (p1 : Int) (σ : jq_M) : Option (Int) :=
  (X11_articleRow p1 σ).bind fun v1 =>
  (jq_ld σ 1 3174 (jq_w (v1 + 4))).bind fun v2 =>
  if v2 = 1 then
    some 1
  
  else
    some 0
noncomputable def X11_agreedNow_b4 (σ : jq_M) (t1 : Int × Int) : Option ((Int × Int) ⊕ (Int)) :=
  (jq_ld σ 1 3174 3).bind fun v2 =>
  if t1.2 < v2 then
    (X11_isAgreed t1.2 σ).bind fun v3 =>
    if v3 = 0 then
      jq_lt (jq_or t1.1 0) fun v5 =>
      jq_lt (jq_w (t1.2 + 1)) fun v6 =>
      some (.inl (v5, v6))
    
    else
      jq_lt (jq_or t1.1 (jq_shl 1 t1.2)) fun v7 =>
      jq_lt (jq_w (t1.2 + 1)) fun v8 =>
      some (.inl (v7, v8))
  
  else
    some (.inr t1.1)
noncomputable def X11_agreedNow (σ : jq_M) : Option (Int) :=
  (jq_lp (X11_agreedNow_b4 σ) (0, 0)).bind (fun e9 =>
    some e9
  )
noncomputable def X11_isOpen (p1 : Int) (σ : jq_M) : Option (Int) :=
  (X11_isAgreed p1 σ).bind fun v1 =>
  if v1 = 0 then
    (X11_articleRow p1 σ).bind fun v3 =>
    (jq_ld σ 1 3174 (jq_w (v3 + 2))).bind fun v4 =>
    (X11_agreedNow σ).bind fun v5 =>
    if jq_and v4 (jq_xor v5 (-1)) = 0 then
      some 1
    
    else
      some 0
  
  else
    some 0
noncomputable def X11_sitting_b4 (σ : jq_M) (t1 : Int × Int) : Option ((Int × Int) ⊕ (Int)) :=
  (jq_ld σ 1 3174 1).bind fun v2 =>
  if t1.2 < v2 then
    (X11_seatOf t1.2 σ).bind fun v3 =>
    if v3 = (-1) then
      jq_lt (jq_or t1.1 0) fun v6 =>
      jq_lt (jq_w (t1.2 + 1)) fun v7 =>
      some (.inl (v6, v7))
    
    else
      jq_lt (jq_or t1.1 (jq_shl 1 t1.2)) fun v4 =>
      jq_lt (jq_w (t1.2 + 1)) fun v5 =>
      some (.inl (v4, v5))
  
  else
    some (.inr t1.1)
noncomputable def X11_sitting (σ : jq_M) : Option (Int) :=
  (jq_lp (X11_sitting_b4 σ) (0, 0)).bind (fun e8 =>
    some e8
  )
noncomputable def X11_openNow_b4 (σ : jq_M) (t1 : Int × Int) : Option ((Int × Int) ⊕ (Int)) :=
  (jq_ld σ 1 3174 3).bind fun v2 =>
  if t1.2 < v2 then
    (X11_isOpen t1.2 σ).bind fun v3 =>
    if v3 = 0 then
      jq_lt (jq_or t1.1 0) fun v5 =>
      jq_lt (jq_w (t1.2 + 1)) fun v6 =>
      some (.inl (v5, v6))
    
    else
      jq_lt (jq_or t1.1 (jq_shl 1 t1.2)) fun v7 =>
      jq_lt (jq_w (t1.2 + 1)) fun v8 =>
      some (.inl (v7, v8))
  
  else
    some (.inr t1.1)
noncomputable def X11_openNow (σ : jq_M) : Option (Int) :=
  (jq_lp (X11_openNow_b4 σ) (0, 0)).bind (fun e9 =>
    some e9
  )
noncomputable def X11_told_j10  (s1 : jq_M) : Option (Int × jq_M) :=
  jq_b2 (X11_refuse 1 s1) fun v2 s3 =>
  some (v2, s3)
noncomputable def X11_told (p1 : Int) (σ : jq_M) : Option (Int × jq_M) :=
  if p1 < 0 then
    X11_told_j10 σ
  
  else
    if 9 < p1 then
      X11_told_j10 σ
    
    else
      (X11_seatsNow σ).bind fun s4 =>
      if p1 = 6 then
        (X11_sitting s4).bind fun v6 =>
        jq_b2 (X11_gives v6 s4) fun v7 s8 =>
        some (v7, s8)
      
      else
        if p1 = 7 then
          (X11_signing s4).bind fun v10 =>
          jq_b2 (X11_gives v10 s4) fun v11 s12 =>
          some (v11, s12)
        
        else
          if p1 = 8 then
            (X11_agreedNow s4).bind fun v14 =>
            jq_b2 (X11_gives v14 s4) fun v15 s16 =>
            some (v15, s16)
          
          else
            if p1 = 9 then
              (X11_openNow s4).bind fun v18 =>
              jq_b2 (X11_gives v18 s4) fun v19 s20 =>
              some (v19, s20)
            
            else
              (jq_ld s4 1 3174 p1).bind fun v21 =>
              jq_b2 (X11_gives v21 s4) fun v22 s23 =>
              some (v22, s23)
noncomputable def X11_sitsAt_b2 (p1 : Int) (σ : jq_M) (t1 : Int) : Option ((Int) ⊕ ((Int) ⊕ (Unit))) :=
  (jq_ld σ 1 3174 1).bind fun v2 =>
  if t1 < v2 then
    (X11_seatOf t1 σ).bind fun v3 =>
    if v3 = p1 then
      some (.inr (.inl t1))
    
    else
      jq_lt (jq_w (t1 + 1)) fun v4 =>
      some (.inl v4)
  
  else
    some (.inr (.inr ()))
noncomputable def X11_sitsAt (p1 : Int) (σ : jq_M) : Option (Int) :=
  (jq_lp (X11_sitsAt_b2 p1 σ) 0).bind (Sum.elim (fun e5 =>
    some e5
  )
    (fun e6 =>
      some (-1)))
noncomputable def X11_who (p1 : Int) (σ : jq_M) : Option (Int × jq_M) :=
  (X11_isPlace p1 σ).bind fun v1 =>
  if v1 = 0 then
    jq_b2 (X11_refuse 1 σ) fun v3 s4 =>
    some (v3, s4)
  
  else
    (X11_sitsAt p1 σ).bind fun v5 =>
    jq_b2 (X11_orNone v5 σ) fun v6 s7 =>
    some (v6, s7)
noncomputable def X11_placeOf (p1 : Int) (σ : jq_M) : Option (Int × jq_M) :=
  (X11_isParty p1 σ).bind fun v1 =>
  if v1 = 0 then
    jq_b2 (X11_refuse 1 σ) fun v3 s4 =>
    some (v3, s4)
  
  else
    (X11_seatOf p1 σ).bind fun v5 =>
    jq_b2 (X11_orNone v5 σ) fun v6 s7 =>
    some (v6, s7)
noncomputable def X11_least (p1 : Int) (σ : jq_M) : Option (Int × jq_M) :=
  (X11_isParty p1 σ).bind fun v1 =>
  if v1 = 0 then
    jq_b2 (X11_refuse 1 σ) fun v3 s4 =>
    some (v3, s4)
  
  else
    (X11_leastOf p1 σ).bind fun v5 =>
    jq_b2 (X11_gives v5 σ) fun v6 s7 =>
    some (v6, s7)
noncomputable def X11_wish_j23  (s1 : jq_M) : Option (Int × jq_M) :=
  jq_b2 (X11_refuse 1 s1) fun v2 s3 =>
  some (v2, s3)
noncomputable def X11_wish (p1 : Int) (p2 : Int) (σ : jq_M) : Option (Int × jq_M) :=
  if p1 < 0 then
    X11_wish_j23 σ
  
  else
    (jq_ld σ 1 3174 2).bind fun v4 =>
    if p1 < v4 then
      if p2 < 0 then
        X11_wish_j23 σ
      
      else
        if 3 < p2 then
          X11_wish_j23 σ
        
        else
          if p2 = 2 then
            (X11_wishRow p1 σ).bind fun v9 =>
            (jq_ld σ 1 3174 (jq_w (v9 + 2))).bind fun v10 =>
            jq_b2 (X11_orNone v10 σ) fun v11 s12 =>
            some (v11, s12)
          
          else
            (X11_wishRow p1 σ).bind fun v5 =>
            (jq_ld σ 1 3174 (jq_w (v5 + p2))).bind fun v6 =>
            jq_b2 (X11_gives v6 σ) fun v7 s8 =>
            some (v7, s8)
    
    else
      X11_wish_j23 σ
noncomputable def X11_article_j35  (s3 : jq_M) : Option (Int × jq_M) :=
  jq_b2 (X11_refuse 1 s3) fun v4 s5 =>
  some (v4, s5)
noncomputable def X11_article (p1 : Int) (p2 : Int) (σ : jq_M) : Option (Int × jq_M) :=
  (X11_isArticle p1 σ).bind fun v1 =>
  if v1 = 0 then
    X11_article_j35 σ
  
  else
    if p2 < 0 then
      X11_article_j35 σ
    
    else
      if 4 < p2 then
        X11_article_j35 σ
      
      else
        (X11_articleRow p1 σ).bind fun v6 =>
        (jq_ld σ 1 3174 (jq_w (v6 + p2))).bind fun v7 =>
        jq_b2 (X11_gives v7 σ) fun v8 s9 =>
        some (v8, s9)
noncomputable def X11_bothSit (p1 : Int) (p2 : Int) (σ : jq_M) : Option (Int) :=
  (X11_seatOf p1 σ).bind fun v1 =>
  if v1 = (-1) then
    some 0
  
  else
    (X11_seatOf p2 σ).bind fun v2 =>
    if v2 = (-1) then
      some 0
    
    else
      some 1
noncomputable def X11_beside_j41  (j8 : Int) (s10 : jq_M) : Option (Int × jq_M) :=
  jq_b2 (X11_gives j8 s10) fun v11 s12 =>
  some (v11, s12)
noncomputable def X11_beside_j40  (s7 : jq_M) : Option (Int × jq_M) :=
  X11_beside_j41 0 s7
noncomputable def X11_beside (p1 : Int) (p2 : Int) (σ : jq_M) : Option (Int × jq_M) :=
  (X11_areTwo p1 p2 σ).bind fun v1 =>
  if v1 = 0 then
    jq_b2 (X11_refuse 1 σ) fun v3 s4 =>
    some (v3, s4)
  
  else
    (X11_bothSit p1 p2 σ).bind fun v5 =>
    if v5 = 0 then
      X11_beside_j40 σ
    
    else
      (X11_seatOf p1 σ).bind fun v13 =>
      (X11_seatOf p2 σ).bind fun v14 =>
      (X11_areBeside v13 v14 σ).bind fun v15 =>
      if v15 = 0 then
        X11_beside_j40 σ
      
      else
        X11_beside_j41 1 σ
noncomputable def X11_facing_j41  (j8 : Int) (s10 : jq_M) : Option (Int × jq_M) :=
  jq_b2 (X11_gives j8 s10) fun v11 s12 =>
  some (v11, s12)
noncomputable def X11_facing_j40  (s7 : jq_M) : Option (Int × jq_M) :=
  X11_facing_j41 0 s7
noncomputable def X11_facing (p1 : Int) (p2 : Int) (σ : jq_M) : Option (Int × jq_M) :=
  (X11_areTwo p1 p2 σ).bind fun v1 =>
  if v1 = 0 then
    jq_b2 (X11_refuse 1 σ) fun v3 s4 =>
    some (v3, s4)
  
  else
    (X11_bothSit p1 p2 σ).bind fun v5 =>
    if v5 = 0 then
      X11_facing_j40 σ
    
    else
      (X11_seatOf p1 σ).bind fun v13 =>
      (X11_seatOf p2 σ).bind fun v14 =>
      (X11_areFacing v13 v14 σ).bind fun v15 =>
      if v15 = 0 then
        X11_facing_j40 σ
      
      else
        X11_facing_j41 1 σ
noncomputable def X11_worth (p1 : Int) (σ : jq_M) : Option (Int × jq_M) :=
  (X11_isParty p1 σ).bind fun v1 =>
  if v1 = 0 then
    jq_b2 (X11_refuse 1 σ) fun v7 s8 =>
    some (v7, s8)
  
  else
    (X11_seatsNow σ).bind fun s3 =>
    (X11_worthOf p1 s3).bind fun v4 =>
    jq_b2 (X11_gives v4 s3) fun v5 s6 =>
    some (v5, s6)
noncomputable def X11_allWorth (σ : jq_M) : Option (Int × jq_M) :=
  (X11_seatsNow σ).bind fun s1 =>
  (X11_worthOfAll s1).bind fun v2 =>
  jq_b2 (X11_gives v2 s1) fun v3 s4 =>
  some (v3, s4)
noncomputable def X11_signs_j32  (j6 : Int) (s8 : jq_M) : Option (Int × jq_M) :=
  jq_b2 (X11_gives j6 s8) fun v9 s10 =>
  some (v9, s10)
noncomputable def X11_signs (p1 : Int) (σ : jq_M) : Option (Int × jq_M) :=
  (X11_isParty p1 σ).bind fun v1 =>
  if v1 = 0 then
    jq_b2 (X11_refuse 1 σ) fun v11 s12 =>
    some (v11, s12)
  
  else
    (X11_seatsNow σ).bind fun s3 =>
    (X11_doesSign p1 s3).bind fun v4 =>
    if v4 = 0 then
      X11_signs_j32 0 s3
    
    else
      X11_signs_j32 1 s3
noncomputable def X11_dearest_b25 (p1 : Int) (s3 : jq_M) (t4 : Int × Int × Int) : Option ((Int × Int × Int) ⊕ (Int)) :=
  (jq_ld s3 1 3174 2).bind fun v5 =>
  if t4.2.2 < v5 then
    (X11_wishRow t4.2.2 s3).bind fun v6 =>
    (jq_ld s3 1 3174 v6).bind fun v7 =>
    if v7 = p1 then
      (X11_isHad t4.2.2 s3).bind fun v9 =>
      if v9 = 0 then
        jq_lt (jq_w (t4.2.2 + 1)) fun v11 =>
        some (.inl (t4.1, t4.2.1, v11))
      
      else
        (X11_wishRow t4.2.2 s3).bind fun v12 =>
        (jq_ld s3 1 3174 (jq_w (v12 + 3))).bind fun v13 =>
        if t4.2.1 < v13 then
          (X11_wishRow t4.2.2 s3).bind fun v14 =>
          (jq_ld s3 1 3174 (jq_w (v14 + 3))).bind fun v15 =>
          jq_lt (jq_w (t4.2.2 + 1)) fun v16 =>
          some (.inl (t4.2.2, v15, v16))
        
        else
          jq_lt (jq_w (t4.2.2 + 1)) fun v17 =>
          some (.inl (t4.1, t4.2.1, v17))
    
    else
      jq_lt (jq_w (t4.2.2 + 1)) fun v8 =>
      some (.inl (t4.1, t4.2.1, v8))
  
  else
    some (.inr t4.1)
noncomputable def X11_dearest (p1 : Int) (σ : jq_M) : Option (Int × jq_M) :=
  (X11_isParty p1 σ).bind fun v1 =>
  if v1 = 0 then
    jq_b2 (X11_refuse 1 σ) fun v21 s22 =>
    some (v21, s22)
  
  else
    (X11_seatsNow σ).bind fun s3 =>
    (jq_lp (X11_dearest_b25 p1 s3) ((-1), 0, 0)).bind (fun e18 =>
      jq_b2 (X11_orNone e18 s3) fun v19 s20 =>
      some (v19, s20)
    )
noncomputable def X11_sits_j18 (p1 : Int) (p2 : Int) (s2 : jq_M) : Option (Int × jq_M) :=
  (X11_partyRow p1 s2).bind fun v3 =>
  (jq_sa s2 1 3174 (jq_w (v3 + 1)) p2).bind fun s4 =>
  some (1, s4)
noncomputable def X11_sits (p1 : Int) (p2 : Int) (σ : jq_M) : Option (Int × jq_M) :=
  (X11_sitsAt p2 σ).bind fun v1 =>
  if v1 = (-1) then
    X11_sits_j18 p1 p2 σ
  
  else
    if v1 = p1 then
      X11_sits_j18 p1 p2 σ
    
    else
      some (0, σ)
noncomputable def X11_sit_j16  (s3 : jq_M) : Option (Int × jq_M) :=
  jq_b2 (X11_refuse 1 s3) fun v4 s5 =>
  some (v4, s5)
noncomputable def X11_sit (p1 : Int) (p2 : Int) (σ : jq_M) : Option (Int × jq_M) :=
  (X11_isParty p1 σ).bind fun v1 =>
  if v1 = 0 then
    X11_sit_j16 σ
  
  else
    (X11_isPlace p2 σ).bind fun v6 =>
    if v6 = 0 then
      X11_sit_j16 σ
    
    else
      (X11_seatOf p1 σ).bind fun v8 =>
      jq_b2 (X11_sits p1 p2 σ) fun v9 s10 =>
      if v9 = 0 then
        jq_b2 (X11_refuse 7 s10) fun v12 s13 =>
        some (v12, s13)
      
      else
        jq_b2 (X11_gives v8 s10) fun v14 s15 =>
        some (v14, s15)
noncomputable def X11_rise (p1 : Int) (σ : jq_M) : Option (Int × jq_M) :=
  (X11_isParty p1 σ).bind fun v1 =>
  if v1 = 0 then
    jq_b2 (X11_refuse 1 σ) fun v10 s11 =>
    some (v10, s11)
  
  else
    (X11_seatOf p1 σ).bind fun v3 =>
    if v3 = (-1) then
      jq_b2 (X11_refuse 7 σ) fun v8 s9 =>
      some (v8, s9)
    
    else
      (X11_partyRow p1 σ).bind fun v4 =>
      (jq_sa σ 1 3174 (jq_w (v4 + 1)) (-1)).bind fun s5 =>
      jq_b2 (X11_gives v3 s5) fun v6 s7 =>
      some (v6, s7)
noncomputable def X11_swaps_j25 (p1 : Int) (p2 : Int) (s2 : jq_M) : Option (Int × jq_M) :=
  (X11_seatOf p1 s2).bind fun v3 =>
  (X11_partyRow p1 s2).bind fun v4 =>
  (X11_seatOf p2 s2).bind fun v5 =>
  (jq_sa s2 1 3174 (jq_w (v4 + 1)) v5).bind fun s6 =>
  (X11_partyRow p2 s6).bind fun v7 =>
  (jq_sa s6 1 3174 (jq_w (v7 + 1)) v3).bind fun s8 =>
  some (1, s8)
noncomputable def X11_swaps (p1 : Int) (p2 : Int) (σ : jq_M) : Option (Int × jq_M) :=
  if p1 = p2 then
    some (0, σ)
  
  else
    (X11_seatOf p1 σ).bind fun v1 =>
    if v1 = (-1) then
      (X11_seatOf p2 σ).bind fun v9 =>
      if v9 = (-1) then
        some (0, σ)
      
      else
        X11_swaps_j25 p1 p2 σ
    
    else
      X11_swaps_j25 p1 p2 σ
noncomputable def X11_swap_j29  (j6 : Int) (s7 : jq_M) : Option (Int × jq_M) :=
  jq_b2 (X11_is j6 s7) fun v8 s9 =>
  some (v8, s9)
noncomputable def X11_swap (p1 : Int) (p2 : Int) (σ : jq_M) : Option (Int × jq_M) :=
  (X11_areTwo p1 p2 σ).bind fun v1 =>
  if v1 = 0 then
    X11_swap_j29 1 σ
  
  else
    jq_b2 (X11_swaps p1 p2 σ) fun v3 s4 =>
    if v3 = 0 then
      X11_swap_j29 7 s4
    
    else
      X11_swap_j29 0 s4
noncomputable def X11_turnsBy_b2 (p1 : Int) (t1 : Int × jq_M) : Option ((Int × jq_M) ⊕ (jq_M)) :=
  (jq_ld t1.2 1 3174 1).bind fun v2 =>
  if t1.1 < v2 then
    (X11_seatOf t1.1 t1.2).bind fun v3 =>
    if v3 = (-1) then
      jq_lt (jq_w (t1.1 + 1)) fun v4 =>
      some (.inl (v4, t1.2))
    
    else
      (X11_partyRow t1.1 t1.2).bind fun v5 =>
      (X11_seatOf t1.1 t1.2).bind fun v6 =>
      (jq_ld t1.2 1 3174 0).bind fun v7 =>
      (jq_rem (jq_w (v6 + p1)) v7).bind fun v8 =>
      (jq_sa t1.2 1 3174 (jq_w (v5 + 1)) v8).bind fun s9 =>
      jq_lt (jq_w (t1.1 + 1)) fun v10 =>
      some (.inl (v10, s9))
  
  else
    some (.inr t1.2)
noncomputable def X11_turnsBy (p1 : Int) (σ : jq_M) : Option (jq_M) :=
  (jq_lp (X11_turnsBy_b2 p1) (0, σ)).bind (fun e11 =>
    some e11
  )
noncomputable def X11_turn (p1 : Int) (σ : jq_M) : Option (Int × jq_M) :=
  (X11_isFrom p1 0 99 σ).bind fun v1 =>
  if v1 = 0 then
    jq_b2 (X11_refuse 1 σ) fun v8 s9 =>
    some (v8, s9)
  
  else
    (X11_turnsBy p1 σ).bind fun s3 =>
    (X11_sitting s3).bind fun v4 =>
    (X11_bits v4 s3).bind fun v5 =>
    jq_b2 (X11_gives v5 s3) fun v6 s7 =>
    some (v6, s7)
noncomputable def X11_dayGoes_b12 (s2 : jq_M) (t3 : Int) : Option ((Int) ⊕ ((Int) ⊕ (Unit))) :=
  (jq_ld s2 1 3174 3).bind fun v4 =>
  if t3 < v4 then
    (X11_isOpen t3 s2).bind fun v5 =>
    if v5 = 0 then
      jq_lt (jq_w (t3 + 1)) fun v7 =>
      some (.inl v7)
    
    else
      some (.inr (.inl t3))
  
  else
    some (.inr (.inr ()))
noncomputable def X11_dayGoes (σ : jq_M) : Option (Int × jq_M) :=
  (jq_ld σ 1 3174 4).bind fun v1 =>
  (jq_sa σ 1 3174 4 (jq_w (v1 + 1))).bind fun s2 =>
  (jq_lp (X11_dayGoes_b12 s2) 0).bind (Sum.elim (fun e8 =>
    (X11_articleRow e8 s2).bind fun v9 =>
    jq_lt (jq_w (v9 + 3)) fun v10 =>
    (jq_ld s2 1 3174 v10).bind fun v11 =>
    (jq_sa s2 1 3174 v10 (jq_w (v11 + 1))).bind fun s12 =>
    (jq_ld s12 1 3174 (jq_w (v9 + 3))).bind fun v13 =>
    (jq_ld s12 1 3174 v9).bind fun v14 =>
    if v13 < v14 then
      some (0, s12)
    
    else
      (jq_sa s12 1 3174 (jq_w (v9 + 4)) 1).bind fun s15 =>
      some (1, s15)
  )
    (fun e16 =>
      some (0, s2)))
noncomputable def X11_daysGo_b4 (p1 : Int) (t1 : Int × Int × jq_M) : Option ((Int × Int × jq_M) ⊕ (Int × jq_M)) :=
  if t1.2.1 < p1 then
    jq_b2 (X11_dayGoes t1.2.2) fun v2 s3 =>
    jq_lt (jq_w (t1.1 + v2)) fun v4 =>
    jq_lt (jq_w (t1.2.1 + 1)) fun v5 =>
    some (.inl (v4, v5, s3))
  
  else
    some (.inr (t1.1, t1.2.2))
noncomputable def X11_daysGo (p1 : Int) (σ : jq_M) : Option (Int × jq_M) :=
  (jq_lp (X11_daysGo_b4 p1) (0, 0, σ)).bind (fun e6 =>
    some (e6.1, e6.2)
  )
noncomputable def X11_day (p1 : Int) (σ : jq_M) : Option (Int × jq_M) :=
  (X11_isFrom p1 1 99 σ).bind fun v1 =>
  if v1 = 0 then
    jq_b2 (X11_refuse 1 σ) fun v10 s11 =>
    some (v10, s11)
  
  else
    (jq_ld σ 1 3174 4).bind fun v3 =>
    if 9999 < jq_w (v3 + p1) then
      jq_b2 (X11_refuse 4 σ) fun v8 s9 =>
      some (v8, s9)
    
    else
      jq_b2 (X11_daysGo p1 σ) fun v4 s5 =>
      jq_b2 (X11_gives v4 s5) fun v6 s7 =>
      some (v6, s7)
noncomputable def X11_agrees (p1 : Int) (σ : jq_M) : Option (Int × jq_M) :=
  (X11_isOpen p1 σ).bind fun v1 =>
  if v1 = 0 then
    some (0, σ)
  
  else
    (X11_articleRow p1 σ).bind fun v3 =>
    (jq_sa σ 1 3174 (jq_w (v3 + 4)) 1).bind fun s4 =>
    some (1, s4)
noncomputable def X11_agree (p1 : Int) (σ : jq_M) : Option (Int × jq_M) :=
  (X11_isArticle p1 σ).bind fun v1 =>
  if v1 = 0 then
    jq_b2 (X11_refuse 1 σ) fun v12 s13 =>
    some (v12, s13)
  
  else
    jq_b2 (X11_agrees p1 σ) fun v3 s4 =>
    if v3 = 0 then
      jq_b2 (X11_refuse 7 s4) fun v6 s7 =>
      some (v6, s7)
    
    else
      (X11_agreedNow s4).bind fun v8 =>
      (X11_bits v8 s4).bind fun v9 =>
      jq_b2 (X11_gives v9 s4) fun v10 s11 =>
      some (v10, s11)
noncomputable def X11_fallsWith_b8 (σ : jq_M) (t3 : Int × Int) : Option ((Int × Int) ⊕ (Int)) :=
  (jq_ld σ 1 3174 3).bind fun v4 =>
  if t3.2 < v4 then
    (X11_articleRow t3.2 σ).bind fun v5 =>
    (jq_ld σ 1 3174 (jq_w (v5 + 2))).bind fun v6 =>
    if jq_and v6 t3.1 = 0 then
      jq_lt (jq_or t3.1 0) fun v7 =>
      jq_lt (jq_w (t3.2 + 1)) fun v8 =>
      some (.inl (v7, v8))
    
    else
      jq_lt (jq_or t3.1 (jq_shl 1 t3.2)) fun v9 =>
      jq_lt (jq_w (t3.2 + 1)) fun v10 =>
      some (.inl (v9, v10))
  
  else
    some (.inr t3.1)
noncomputable def X11_fallsWith (p1 : Int) (σ : jq_M) : Option (Int) :=
  jq_lt (jq_shl 1 p1) fun v1 =>
  jq_lt (jq_w (p1 + 1)) fun v2 =>
  (jq_lp (X11_fallsWith_b8 σ) (v1, v2)).bind (fun e11 =>
    some e11
  )
noncomputable def X11_fallsNow_b13 (v3 : Int) (t4 : Int × jq_M) : Option ((Int × jq_M) ⊕ (jq_M)) :=
  (jq_ld t4.2 1 3174 3).bind fun v5 =>
  if t4.1 < v5 then
    (X11_isIn v3 t4.1 t4.2).bind fun v6 =>
    if v6 = 0 then
      jq_lt (jq_w (t4.1 + 1)) fun v13 =>
      some (.inl (v13, t4.2))
    
    else
      (X11_articleRow t4.1 t4.2).bind fun v8 =>
      (jq_sa t4.2 1 3174 (jq_w (v8 + 4)) 0).bind fun s9 =>
      (X11_articleRow t4.1 s9).bind fun v10 =>
      (jq_sa s9 1 3174 (jq_w (v10 + 3)) 0).bind fun s11 =>
      jq_lt (jq_w (t4.1 + 1)) fun v12 =>
      some (.inl (v12, s11))
  
  else
    some (.inr t4.2)
noncomputable def X11_fallsNow (p1 : Int) (σ : jq_M) : Option (Int × jq_M) :=
  (X11_fallsWith p1 σ).bind fun v1 =>
  (X11_agreedNow σ).bind fun v2 =>
  jq_lt (jq_and v1 v2) fun v3 =>
  (jq_lp (X11_fallsNow_b13 v3) (0, σ)).bind (fun e14 =>
    (X11_bits v3 e14).bind fun v15 =>
    some (v15, e14)
  )
noncomputable def X11_withdraw (p1 : Int) (σ : jq_M) : Option (Int × jq_M) :=
  (X11_isArticle p1 σ).bind fun v1 =>
  if v1 = 0 then
    jq_b2 (X11_refuse 1 σ) fun v11 s12 =>
    some (v11, s12)
  
  else
    (X11_isAgreed p1 σ).bind fun v3 =>
    if v3 = 0 then
      jq_b2 (X11_refuse 7 σ) fun v5 s6 =>
      some (v5, s6)
    
    else
      jq_b2 (X11_fallsNow p1 σ) fun v7 s8 =>
      jq_b2 (X11_gives v7 s8) fun v9 s10 =>
      some (v9, s10)
noncomputable def X11_insist_j20  (s3 : jq_M) : Option (Int × jq_M) :=
  jq_b2 (X11_is 1 s3) fun v4 s5 =>
  some (v4, s5)
noncomputable def X11_insist (p1 : Int) (p2 : Int) (σ : jq_M) : Option (Int × jq_M) :=
  (X11_isParty p1 σ).bind fun v1 =>
  if v1 = 0 then
    X11_insist_j20 σ
  
  else
    (X11_isFrom p2 0 50 σ).bind fun v7 =>
    if v7 = 0 then
      X11_insist_j20 σ
    
    else
      (X11_partyRow p1 σ).bind fun v9 =>
      (jq_sa σ 1 3174 v9 p2).bind fun s10 =>
      jq_b2 (X11_is 0 s10) fun v11 s12 =>
      some (v11, s12)
noncomputable def X11_value_j32  (s1 : jq_M) : Option (Int × jq_M) :=
  jq_b2 (X11_is 1 s1) fun v2 s3 =>
  some (v2, s3)
noncomputable def X11_value (p1 : Int) (p2 : Int) (σ : jq_M) : Option (Int × jq_M) :=
  if p1 < 0 then
    X11_value_j32 σ
  
  else
    (jq_ld σ 1 3174 2).bind fun v5 =>
    if p1 < v5 then
      (X11_isFrom p2 (-9) 9 σ).bind fun v6 =>
      if v6 = 0 then
        X11_value_j32 σ
      
      else
        if p2 = 0 then
          X11_value_j32 σ
        
        else
          (X11_wishRow p1 σ).bind fun v8 =>
          (jq_sa σ 1 3174 (jq_w (v8 + 3)) p2).bind fun s9 =>
          jq_b2 (X11_is 0 s9) fun v10 s11 =>
          some (v10, s11)
    
    else
      X11_value_j32 σ
noncomputable def X11_carve (p1 : Int) (p2 : Int) (σ : jq_M) : Option (Int × jq_M) :=
  (X11_isPlace p1 σ).bind fun v1 =>
  if v1 = 0 then
    jq_b2 (X11_is 1 σ) fun v14 s15 =>
    some (v14, s15)
  
  else
    (jq_ld σ 1 3174 5).bind fun v3 =>
    (X11_isIn v3 p1 σ).bind fun v4 =>
    if v4 = p2 then
      jq_b2 (X11_is 7 σ) fun v11 s12 =>
      some (v11, s12)
    
    else
      (jq_ld σ 1 3174 5).bind fun v6 =>
      (jq_sa σ 1 3174 5 (jq_xor v6 (jq_shl 1 p1))).bind fun s7 =>
      jq_b2 (X11_is 0 s7) fun v8 s9 =>
      some (v8, s9)
noncomputable def X11_codes_b17 (σ : jq_M) (t4 : Int × Int) : Option ((Int × Int) ⊕ (Int)) :=
  (jq_ld σ 1 3174 1).bind fun v5 =>
  if t4.2 < v5 then
    (jq_ld σ 1 3174 0).bind fun v6 =>
    jq_lt (jq_w (t4.1 * v6)) fun v7 =>
    jq_lt (jq_w (t4.2 + 1)) fun v8 =>
    some (.inl (v7, v8))
  
  else
    some (.inr t4.1)
noncomputable def X11_codes_j14 (σ : jq_M) (j2 : Int) : Option (Int) :=
  (jq_lp (X11_codes_b17 σ) (j2, 0)).bind (fun e9 =>
    some e9
  )
noncomputable def X11_codes (σ : jq_M) : Option (Int) :=
  (jq_ld σ 1 3174 0).bind fun v1 =>
  if v1 = 0 then
    X11_codes_j14 σ 0
  
  else
    X11_codes_j14 σ 1
noncomputable def X11_seatsBy_b14  (t3 : Int × Int × Int × jq_M) : Option ((Int × Int × Int × jq_M) ⊕ ((jq_M) ⊕ (jq_M))) :=
  if t3.2.2.1 < 0 then
    some (.inr (.inr t3.2.2.2))
  
  else
    (jq_ld t3.2.2.2 1 3174 0).bind fun v4 =>
    (jq_rem t3.1 v4).bind fun v5 =>
    (jq_sa t3.2.2.2 9 5 t3.2.2.1 v5).bind fun s6 =>
    (jq_ld s6 1 3174 0).bind fun v7 =>
    (jq_div t3.1 v7).bind fun v8 =>
    (jq_ld s6 9 5 t3.2.2.1).bind fun v9 =>
    (X11_isIn t3.2.1 v9 s6).bind fun v10 =>
    if v10 = 0 then
      (jq_ld s6 9 5 t3.2.2.1).bind fun v12 =>
      jq_lt (jq_or t3.2.1 (jq_shl 1 v12)) fun v13 =>
      jq_lt (jq_w (t3.2.2.1 + (-1))) fun v14 =>
      some (.inl (v8, v13, v14, s6))
    
    else
      some (.inr (.inl s6))
noncomputable def X11_seatsBy (p1 : Int) (σ : jq_M) : Option (Int × jq_M) :=
  (jq_ld σ 1 3174 1).bind fun v1 =>
  jq_lt (jq_w (v1 - 1)) fun v2 =>
  (jq_lp (X11_seatsBy_b14) (p1, 0, v2, σ)).bind (Sum.elim (fun e15 =>
    some (0, e15)
  )
    (fun e16 =>
      some (1, e16)))
noncomputable def X11_codeOf_b4 (σ : jq_M) (t1 : Int × Int) : Option ((Int × Int) ⊕ (Int)) :=
  (jq_ld σ 1 3174 1).bind fun v2 =>
  if t1.2 < v2 then
    (jq_ld σ 1 3174 0).bind fun v3 =>
    (jq_ld σ 9 5 t1.2).bind fun v4 =>
    jq_lt (jq_w ((jq_w (t1.1 * v3)) + v4)) fun v5 =>
    jq_lt (jq_w (t1.2 + 1)) fun v6 =>
    some (.inl (v5, v6))
  
  else
    some (.inr t1.1)
noncomputable def X11_codeOf (σ : jq_M) : Option (Int) :=
  (jq_lp (X11_codeOf_b4 σ) (0, 0)).bind (fun e7 =>
    some e7
  )
noncomputable def X11_isGood (σ : jq_M) : Option (Int) :=
  (X11_signing σ).bind fun v1 =>
  (X11_everybody σ).bind fun v2 =>
  if v1 = v2 then
    some 1
  
  else
    some 0
noncomputable def X11_seatings_b4  (t1 : Int × Int × jq_M) : Option ((Int × Int × jq_M) ⊕ (Int × jq_M)) :=
  (X11_codes t1.2.2).bind fun v2 =>
  if t1.2.1 < v2 then
    jq_b2 (X11_seatsBy t1.2.1 t1.2.2) fun v3 s4 =>
    if v3 = 0 then
      jq_lt (jq_w (t1.1 + 0)) fun v6 =>
      jq_lt (jq_w (t1.2.1 + 1)) fun v7 =>
      some (.inl (v6, v7, s4))
    
    else
      jq_lt (jq_w (t1.1 + 1)) fun v8 =>
      jq_lt (jq_w (t1.2.1 + 1)) fun v9 =>
      some (.inl (v8, v9, s4))
  
  else
    some (.inr (t1.1, t1.2.2))
noncomputable def X11_seatings (σ : jq_M) : Option (Int × jq_M) :=
  (jq_lp (X11_seatings_b4) (0, 0, σ)).bind (fun e10 =>
    jq_b2 (X11_gives e10.1 e10.2) fun v11 s12 =>
    some (v11, s12)
  )
noncomputable def X11_good_b4  (t1 : Int × Int × jq_M) : Option ((Int × Int × jq_M) ⊕ (Int × jq_M)) :=
  (X11_codes t1.2.2).bind fun v2 =>
  if t1.2.1 < v2 then
    jq_b2 (X11_seatsBy t1.2.1 t1.2.2) fun v3 s4 =>
    if v3 = 0 then
      jq_lt (jq_w (t1.1 + 0)) fun v6 =>
      jq_lt (jq_w (t1.2.1 + 1)) fun v7 =>
      some (.inl (v6, v7, s4))
    
    else
      (X11_isGood s4).bind fun v8 =>
      if v8 = 0 then
        jq_lt (jq_w (t1.1 + 0)) fun v10 =>
        jq_lt (jq_w (t1.2.1 + 1)) fun v11 =>
        some (.inl (v10, v11, s4))
      
      else
        jq_lt (jq_w (t1.1 + 1)) fun v12 =>
        jq_lt (jq_w (t1.2.1 + 1)) fun v13 =>
        some (.inl (v12, v13, s4))
  
  else
    some (.inr (t1.1, t1.2.2))
noncomputable def X11_good (σ : jq_M) : Option (Int × jq_M) :=
  (jq_lp (X11_good_b4) (0, 0, σ)).bind (fun e14 =>
    jq_b2 (X11_gives e14.1 e14.2) fun v15 s16 =>
    some (v15, s16)
  )
noncomputable def X11_moves_b2 (p1 : Int) (t1 : Int × jq_M) : Option ((Int × jq_M) ⊕ (jq_M)) :=
  (jq_ld t1.2 1 3174 1).bind fun v2 =>
  if t1.1 < v2 then
    if p1 = 0 then
      (jq_ld t1.2 9 5 t1.1).bind fun v3 =>
      (jq_ld t1.2 1 3174 0).bind fun v4 =>
      (jq_rem (jq_w (v3 + 1)) v4).bind fun v5 =>
      (jq_sa t1.2 9 5 t1.1 v5).bind fun s6 =>
      jq_lt (jq_w (t1.1 + 1)) fun v7 =>
      some (.inl (v7, s6))
    
    else
      (jq_ld t1.2 1 3174 0).bind fun v8 =>
      (jq_ld t1.2 9 5 t1.1).bind fun v9 =>
      (jq_sa t1.2 9 5 t1.1 (jq_w ((jq_w (v8 - 1)) - v9))).bind fun s10 =>
      jq_lt (jq_w (t1.1 + 1)) fun v11 =>
      some (.inl (v11, s10))
  
  else
    some (.inr t1.2)
noncomputable def X11_moves (p1 : Int) (σ : jq_M) : Option (jq_M) :=
  (jq_lp (X11_moves_b2 p1) (0, σ)).bind (fun e12 =>
    some e12
  )
noncomputable def X11_isClass_j49 (p1 : Int) (t1 : Int × Int × jq_M) (j5 : Int) (j6 : Int) (s8 : jq_M) : Option ((Int × Int × jq_M) ⊕ ((jq_M) ⊕ (Int × jq_M))) :=
  (X11_moves 0 s8).bind fun s9 =>
  jq_lt (jq_w (j5 + 1)) fun v10 =>
  some (.inl (j6, v10, s9))
noncomputable def X11_isClass_b12 (p1 : Int) (t1 : Int × Int × jq_M) (t2 : Int × Int × jq_M) : Option ((Int × Int × jq_M) ⊕ ((jq_M) ⊕ (Int × jq_M))) :=
  (jq_ld t2.2.2 1 3174 0).bind fun v3 =>
  if t2.2.1 < v3 then
    (X11_codeOf t2.2.2).bind fun v4 =>
    if v4 < p1 then
      some (.inr (.inl t2.2.2))
    
    else
      if t2.1 = 0 then
        (X11_isGood t2.2.2).bind fun v11 =>
        if v11 = 0 then
          X11_isClass_j49 p1 t1 t2.2.1 0 t2.2.2
        
        else
          X11_isClass_j49 p1 t1 t2.2.1 1 t2.2.2
      
      else
        X11_isClass_j49 p1 t1 t2.2.1 1 t2.2.2
  
  else
    some (.inr (.inr (t2.1, t2.2.2)))
noncomputable def X11_isClass_b4 (p1 : Int) (t1 : Int × Int × jq_M) : Option ((Int × Int × jq_M) ⊕ ((jq_M) ⊕ (Int × jq_M))) :=
  if t1.2.1 < 2 then
    (jq_lp (X11_isClass_b12 p1 t1) (t1.1, 0, t1.2.2)).bind (Sum.elim (fun e13 =>
      some (.inr (.inl e13))
    )
      (fun e14 =>
        (X11_moves 1 e14.2).bind fun s15 =>
        jq_lt (jq_w (t1.2.1 + 1)) fun v16 =>
        some (.inl (e14.1, v16, s15))))
  
  else
    some (.inr (.inr (t1.1, t1.2.2)))
noncomputable def X11_isClass (p1 : Int) (σ : jq_M) : Option (Int × jq_M) :=
  (jq_lp (X11_isClass_b4 p1) (0, 0, σ)).bind (Sum.elim (fun e17 =>
    some (0, e17)
  )
    (fun e18 =>
      (jq_bl e18.1).bind fun v19 =>
      some (v19, e18.2)))
noncomputable def X11_classes_b4  (t1 : Int × Int × jq_M) : Option ((Int × Int × jq_M) ⊕ (Int × jq_M)) :=
  (X11_codes t1.2.2).bind fun v2 =>
  if t1.2.1 < v2 then
    jq_b2 (X11_seatsBy t1.2.1 t1.2.2) fun v3 s4 =>
    if v3 = 0 then
      jq_lt (jq_w (t1.1 + 0)) fun v6 =>
      jq_lt (jq_w (t1.2.1 + 1)) fun v7 =>
      some (.inl (v6, v7, s4))
    
    else
      jq_b2 (X11_isClass t1.2.1 s4) fun v8 s9 =>
      if v8 = 0 then
        jq_lt (jq_w (t1.1 + 0)) fun v11 =>
        jq_lt (jq_w (t1.2.1 + 1)) fun v12 =>
        some (.inl (v11, v12, s9))
      
      else
        jq_lt (jq_w (t1.1 + 1)) fun v13 =>
        jq_lt (jq_w (t1.2.1 + 1)) fun v14 =>
        some (.inl (v13, v14, s9))
  
  else
    some (.inr (t1.1, t1.2.2))
noncomputable def X11_classes (σ : jq_M) : Option (Int × jq_M) :=
  (jq_lp (X11_classes_b4) (0, 0, σ)).bind (fun e15 =>
    jq_b2 (X11_gives e15.1 e15.2) fun v16 s17 =>
    some (v16, s17)
  )
noncomputable def X11_firstGood_b2  (t1 : Int × jq_M) : Option ((Int × jq_M) ⊕ ((Int × jq_M) ⊕ (jq_M))) :=
  (X11_codes t1.2).bind fun v2 =>
  if t1.1 < v2 then
    jq_b2 (X11_seatsBy t1.1 t1.2) fun v3 s4 =>
    if v3 = 0 then
      jq_lt (jq_w (t1.1 + 1)) fun v6 =>
      some (.inl (v6, s4))
    
    else
      (X11_isGood s4).bind fun v7 =>
      if v7 = 0 then
        jq_lt (jq_w (t1.1 + 1)) fun v9 =>
        some (.inl (v9, s4))
      
      else
        some (.inr (.inl (t1.1, s4)))
  
  else
    some (.inr (.inr t1.2))
noncomputable def X11_firstGood (σ : jq_M) : Option (Int × jq_M) :=
  (jq_lp (X11_firstGood_b2) (0, σ)).bind (Sum.elim (fun e10 =>
    some (e10.1, e10.2)
  )
    (fun e11 =>
      some ((-1), e11)))
noncomputable def X11_goodAt (p1 : Int) (σ : jq_M) : Option (Int × jq_M) :=
  (X11_isParty p1 σ).bind fun v1 =>
  if v1 = 0 then
    jq_b2 (X11_refuse 1 σ) fun v10 s11 =>
    some (v10, s11)
  
  else
    jq_b2 (X11_firstGood σ) fun v3 s4 =>
    if v3 = (-1) then
      jq_b2 (X11_refuse 6 s4) fun v8 s9 =>
      some (v8, s9)
    
    else
      (jq_ld s4 9 5 p1).bind fun v5 =>
      jq_b2 (X11_gives v5 s4) fun v6 s7 =>
      some (v6, s7)
noncomputable def X11_bestCode_j38  (j7 : Int) (s8 : jq_M) : Option ((Int × Int × Int × jq_M) ⊕ (Int × jq_M)) :=
  (X11_worthOfAll s8).bind fun v9 =>
  jq_lt (jq_w (j7 + 1)) fun v10 =>
  some (.inl (j7, v9, v10, s8))
noncomputable def X11_bestCode_b6  (t1 : Int × Int × Int × jq_M) : Option ((Int × Int × Int × jq_M) ⊕ (Int × jq_M)) :=
  (X11_codes t1.2.2.2).bind fun v2 =>
  if t1.2.2.1 < v2 then
    jq_b2 (X11_seatsBy t1.2.2.1 t1.2.2.2) fun v3 s4 =>
    if v3 = 0 then
      jq_lt (jq_w (t1.2.2.1 + 1)) fun v6 =>
      some (.inl (t1.1, t1.2.1, v6, s4))
    
    else
      if t1.1 = (-1) then
        X11_bestCode_j38 t1.2.2.1 s4
      
      else
        (X11_worthOfAll s4).bind fun v11 =>
        if t1.2.1 < v11 then
          X11_bestCode_j38 t1.2.2.1 s4
        
        else
          jq_lt (jq_w (t1.2.2.1 + 1)) fun v12 =>
          some (.inl (t1.1, t1.2.1, v12, s4))
  
  else
    some (.inr (t1.1, t1.2.2.2))
noncomputable def X11_bestCode (σ : jq_M) : Option (Int × jq_M) :=
  (jq_lp (X11_bestCode_b6) ((-1), 0, 0, σ)).bind (fun e13 =>
    if e13.1 = (-1) then
      some (e13.1, e13.2)
    
    else
      jq_b2 (X11_seatsBy e13.1 e13.2) fun v14 s15 =>
      some (e13.1, s15)
  )
noncomputable def X11_best (σ : jq_M) : Option (Int × jq_M) :=
  jq_b2 (X11_bestCode σ) fun v1 s2 =>
  if v1 = (-1) then
    jq_b2 (X11_refuse 6 s2) fun v6 s7 =>
    some (v6, s7)
  
  else
    (X11_worthOfAll s2).bind fun v3 =>
    jq_b2 (X11_gives v3 s2) fun v4 s5 =>
    some (v4, s5)
noncomputable def X11_bestAt (p1 : Int) (σ : jq_M) : Option (Int × jq_M) :=
  (X11_isParty p1 σ).bind fun v1 =>
  if v1 = 0 then
    jq_b2 (X11_refuse 1 σ) fun v8 s9 =>
    some (v8, s9)
  
  else
    jq_b2 (X11_bestCode σ) fun v3 s4 =>
    (jq_ld s4 9 5 p1).bind fun v5 =>
    jq_b2 (X11_gives v5 s4) fun v6 s7 =>
    some (v6, s7)
noncomputable def X11_mostSign_b4  (t1 : Int × Int × jq_M) : Option ((Int × Int × jq_M) ⊕ (Int × jq_M)) :=
  (X11_codes t1.2.2).bind fun v2 =>
  if t1.2.1 < v2 then
    jq_b2 (X11_seatsBy t1.2.1 t1.2.2) fun v3 s4 =>
    if v3 = 0 then
      jq_lt (jq_w (t1.2.1 + 1)) fun v6 =>
      some (.inl (t1.1, v6, s4))
    
    else
      (X11_signing s4).bind fun v7 =>
      (X11_bits v7 s4).bind fun v8 =>
      jq_lt (jq_max t1.1 v8) fun v9 =>
      jq_lt (jq_w (t1.2.1 + 1)) fun v10 =>
      some (.inl (v9, v10, s4))
  
  else
    some (.inr (t1.1, t1.2.2))
noncomputable def X11_mostSign (σ : jq_M) : Option (Int × jq_M) :=
  (jq_lp (X11_mostSign_b4) ((-1), 0, σ)).bind (fun e11 =>
    jq_b2 (X11_orNone e11.1 e11.2) fun v12 s13 =>
    some (v12, s13)
  )
noncomputable def X11_arePleased_b2 (p1 : Int) (t1 : Int × jq_M) : Option ((Int × jq_M) ⊕ ((jq_M) ⊕ (jq_M))) :=
  (X11_codes t1.2).bind fun v2 =>
  if t1.1 < v2 then
    jq_b2 (X11_seatsBy t1.1 t1.2) fun v3 s4 =>
    if v3 = 0 then
      jq_lt (jq_w (t1.1 + 1)) fun v6 =>
      some (.inl (v6, s4))
    
    else
      (X11_signing s4).bind fun v7 =>
      if jq_and p1 (jq_xor v7 (-1)) = 0 then
        some (.inr (.inl s4))
      
      else
        jq_lt (jq_w (t1.1 + 1)) fun v8 =>
        some (.inl (v8, s4))
  
  else
    some (.inr (.inr t1.2))
noncomputable def X11_arePleased (p1 : Int) (σ : jq_M) : Option (Int × jq_M) :=
  (jq_lp (X11_arePleased_b2 p1) (0, σ)).bind (Sum.elim (fun e9 =>
    some (1, e9)
  )
    (fun e10 =>
      some (0, e10)))
noncomputable def X11_quarrel_j39  (j4 : Int) (j5 : Int) (s6 : jq_M) : Option ((Int × Int × jq_M) ⊕ (Int × jq_M)) :=
  jq_b2 (X11_arePleased j5 s6) fun v7 s8 =>
  if v7 = 0 then
    jq_lt (jq_w (j5 + 1)) fun v11 =>
    some (.inl (j5, v11, s8))
  
  else
    jq_lt (jq_w (j5 + 1)) fun v10 =>
    some (.inl (j4, v10, s8))
noncomputable def X11_quarrel_b4  (t1 : Int × Int × jq_M) : Option ((Int × Int × jq_M) ⊕ (Int × jq_M)) :=
  (jq_ld t1.2.2 1 3174 1).bind fun v2 =>
  if t1.2.1 < jq_shl 1 v2 then
    (X11_codes t1.2.2).bind fun v3 =>
    if 0 < v3 then
      if t1.1 = (-1) then
        X11_quarrel_j39 t1.1 t1.2.1 t1.2.2
      
      else
        (X11_bits t1.2.1 t1.2.2).bind fun v12 =>
        (X11_bits t1.1 t1.2.2).bind fun v13 =>
        if v12 < v13 then
          X11_quarrel_j39 t1.1 t1.2.1 t1.2.2
        
        else
          jq_lt (jq_w (t1.2.1 + 1)) fun v14 =>
          some (.inl (t1.1, v14, t1.2.2))
    
    else
      some (.inr (t1.1, t1.2.2))
  
  else
    some (.inr (t1.1, t1.2.2))
noncomputable def X11_quarrel_j55  (j16 : Int) (s17 : jq_M) : Option (Int × jq_M) :=
  jq_b2 (X11_orNone j16 s17) fun v18 s19 =>
  some (v18, s19)
noncomputable def X11_quarrel (σ : jq_M) : Option (Int × jq_M) :=
  (jq_lp (X11_quarrel_b4) ((-1), 1, σ)).bind (fun e15 =>
    X11_quarrel_j55 e15.1 e15.2
  )
noncomputable def X11_pleased_j52  (j8 : Int) (s10 : jq_M) : Option (Int × jq_M) :=
  jq_b2 (X11_gives j8 s10) fun v11 s12 =>
  some (v11, s12)
noncomputable def X11_pleased (p1 : Int) (σ : jq_M) : Option (Int × jq_M) :=
  (X11_everybody σ).bind fun v1 =>
  (X11_isFrom p1 0 v1 σ).bind fun v2 =>
  if v2 = 0 then
    jq_b2 (X11_refuse 1 σ) fun v15 s16 =>
    some (v15, s16)
  
  else
    (X11_codes σ).bind fun v4 =>
    if v4 = 0 then
      jq_b2 (X11_refuse 6 σ) fun v13 s14 =>
      some (v13, s14)
    
    else
      jq_b2 (X11_arePleased p1 σ) fun v5 s6 =>
      if v5 = 0 then
        X11_pleased_j52 0 s6
      
      else
        X11_pleased_j52 1 s6
noncomputable def X11_mostFor_b20 (p1 : Int) (t3 : Int × Int × jq_M) : Option ((Int × Int × jq_M) ⊕ (Int × jq_M)) :=
  (X11_codes t3.2.2).bind fun v4 =>
  if t3.2.1 < v4 then
    jq_b2 (X11_seatsBy t3.2.1 t3.2.2) fun v5 s6 =>
    if v5 = 0 then
      jq_lt (jq_w (t3.2.1 + 1)) fun v8 =>
      some (.inl (t3.1, v8, s6))
    
    else
      (X11_worthOf p1 s6).bind fun v9 =>
      jq_lt (jq_max t3.1 v9) fun v10 =>
      jq_lt (jq_w (t3.2.1 + 1)) fun v11 =>
      some (.inl (v10, v11, s6))
  
  else
    some (.inr (t3.1, t3.2.2))
noncomputable def X11_mostFor (p1 : Int) (σ : jq_M) : Option (Int × jq_M) :=
  (X11_isParty p1 σ).bind fun v1 =>
  if v1 = 0 then
    jq_b2 (X11_refuse 1 σ) fun v15 s16 =>
    some (v15, s16)
  
  else
    (jq_lp (X11_mostFor_b20 p1) ((-1000000), 0, σ)).bind (fun e12 =>
      jq_b2 (X11_gives e12.1 e12.2) fun v13 s14 =>
      some (v13, s14)
    )
noncomputable def X11_signsIn_b18 (p1 : Int) (t3 : Int × Int × jq_M) : Option ((Int × Int × jq_M) ⊕ (Int × jq_M)) :=
  (X11_codes t3.2.2).bind fun v4 =>
  if t3.2.1 < v4 then
    jq_b2 (X11_seatsBy t3.2.1 t3.2.2) fun v5 s6 =>
    if v5 = 0 then
      jq_lt (jq_w (t3.1 + 0)) fun v8 =>
      jq_lt (jq_w (t3.2.1 + 1)) fun v9 =>
      some (.inl (v8, v9, s6))
    
    else
      (X11_doesSign p1 s6).bind fun v10 =>
      if v10 = 0 then
        jq_lt (jq_w (t3.1 + 0)) fun v12 =>
        jq_lt (jq_w (t3.2.1 + 1)) fun v13 =>
        some (.inl (v12, v13, s6))
      
      else
        jq_lt (jq_w (t3.1 + 1)) fun v14 =>
        jq_lt (jq_w (t3.2.1 + 1)) fun v15 =>
        some (.inl (v14, v15, s6))
  
  else
    some (.inr (t3.1, t3.2.2))
noncomputable def X11_signsIn (p1 : Int) (σ : jq_M) : Option (Int × jq_M) :=
  (X11_isParty p1 σ).bind fun v1 =>
  if v1 = 0 then
    jq_b2 (X11_refuse 1 σ) fun v19 s20 =>
    some (v19, s20)
  
  else
    (jq_lp (X11_signsIn_b18 p1) (0, 0, σ)).bind (fun e16 =>
      jq_b2 (X11_gives e16.1 e16.2) fun v17 s18 =>
      some (v17, s18)
    )
noncomputable def X11_seatBest_b17  (t3 : Int × jq_M) : Option ((Int × jq_M) ⊕ (jq_M)) :=
  (jq_ld t3.2 1 3174 1).bind fun v4 =>
  if t3.1 < v4 then
    (X11_partyRow t3.1 t3.2).bind fun v5 =>
    (jq_ld t3.2 9 5 t3.1).bind fun v6 =>
    (jq_sa t3.2 1 3174 (jq_w (v5 + 1)) v6).bind fun s7 =>
    jq_lt (jq_w (t3.1 + 1)) fun v8 =>
    some (.inl (v8, s7))
  
  else
    some (.inr t3.2)
noncomputable def X11_seatBest (σ : jq_M) : Option (Int × jq_M) :=
  jq_b2 (X11_bestCode σ) fun v1 s2 =>
  if v1 = (-1) then
    jq_b2 (X11_refuse 6 s2) fun v13 s14 =>
    some (v13, s14)
  
  else
    (jq_lp (X11_seatBest_b17) (0, s2)).bind (fun e9 =>
      (X11_worthOfAll e9).bind fun v10 =>
      jq_b2 (X11_gives v10 e9) fun v11 s12 =>
      some (v11, s12)
    )
noncomputable def X11_fish (σ : jq_M) : Option (Int × jq_M) :=
  (X11_seatsNow σ).bind fun s1 =>
  (X11_fishing s1).bind fun v2 =>
  jq_b2 (X11_gives v2 s1) fun v3 s4 =>
  some (v3, s4)
noncomputable def X11_leastFish_b6  (t1 : Int × Int × jq_M) : Option ((Int × Int × jq_M) ⊕ (Int × jq_M)) :=
  (X11_codes t1.2.2).bind fun v2 =>
  if t1.2.1 < v2 then
    jq_b2 (X11_seatsBy t1.2.1 t1.2.2) fun v3 s4 =>
    if v3 = 0 then
      jq_lt (jq_w (t1.2.1 + 1)) fun v6 =>
      some (.inl (t1.1, v6, s4))
    
    else
      (X11_fishing s4).bind fun v7 =>
      jq_lt (jq_min t1.1 v7) fun v8 =>
      jq_lt (jq_w (t1.2.1 + 1)) fun v9 =>
      some (.inl (v8, v9, s4))
  
  else
    some (.inr (t1.1, t1.2.2))
noncomputable def X11_leastFish (σ : jq_M) : Option (Int × jq_M) :=
  (jq_lp (X11_leastFish_b6) (1000000, 0, σ)).bind (fun e10 =>
    if e10.1 = 1000000 then
      jq_b2 (X11_refuse 6 e10.2) fun v13 s14 =>
      some (v13, s14)
    
    else
      jq_b2 (X11_gives e10.1 e10.2) fun v11 s12 =>
      some (v11, s12)
  )
noncomputable def X11_swapsSeats (p1 : Int) (p2 : Int) (σ : jq_M) : Option (jq_M) :=
  (jq_ld σ 9 5 p1).bind fun v1 =>
  (jq_ld σ 9 5 p2).bind fun v2 =>
  (jq_sa σ 9 5 p1 v2).bind fun s3 =>
  (jq_sa s3 9 5 p2 v1).bind fun s4 =>
  some s4
noncomputable def X11_bestSwap_j63 (t3 : Int × Int × Int × jq_M) (j9 : Int) (j10 : Int) (j11 : Int) (s12 : jq_M) : Option ((Int × Int × Int × jq_M) ⊕ (Int × Int × jq_M)) :=
  (X11_swapsSeats t3.2.2.1 j11 s12).bind fun s13 =>
  (X11_worthOfAll s13).bind fun v14 =>
  (X11_swapsSeats t3.2.2.1 j11 s13).bind fun s15 =>
  if j9 < v14 then
    jq_lt (jq_w ((jq_w (10 * t3.2.2.1)) + j11)) fun v16 =>
    jq_lt (jq_w (j11 + 1)) fun v17 =>
    some (.inl (v14, v16, v17, s15))
  
  else
    jq_lt (jq_w (j11 + 1)) fun v18 =>
    some (.inl (j9, j10, v18, s15))
noncomputable def X11_bestSwap_b28 (t3 : Int × Int × Int × jq_M) (t6 : Int × Int × Int × jq_M) : Option ((Int × Int × Int × jq_M) ⊕ (Int × Int × jq_M)) :=
  (jq_ld t6.2.2.2 1 3174 1).bind fun v7 =>
  if t6.2.2.1 < v7 then
    (jq_ld t6.2.2.2 9 5 t3.2.2.1).bind fun v8 =>
    if v8 = (-1) then
      (jq_ld t6.2.2.2 9 5 t6.2.2.1).bind fun v19 =>
      if v19 = (-1) then
        jq_lt (jq_w (t6.2.2.1 + 1)) fun v20 =>
        some (.inl (t6.1, t6.2.1, v20, t6.2.2.2))
      
      else
        X11_bestSwap_j63 t3 t6.1 t6.2.1 t6.2.2.1 t6.2.2.2
    
    else
      X11_bestSwap_j63 t3 t6.1 t6.2.1 t6.2.2.1 t6.2.2.2
  
  else
    some (.inr (t6.1, t6.2.1, t6.2.2.2))
noncomputable def X11_bestSwap_b13  (t3 : Int × Int × Int × jq_M) : Option ((Int × Int × Int × jq_M) ⊕ (Int × jq_M)) :=
  (jq_ld t3.2.2.2 1 3174 1).bind fun v4 =>
  if t3.2.2.1 < v4 then
    jq_lt (jq_w (t3.2.2.1 + 1)) fun v5 =>
    (jq_lp (X11_bestSwap_b28 t3) (t3.1, t3.2.1, v5, t3.2.2.2)).bind (fun e21 =>
      jq_lt (jq_w (t3.2.2.1 + 1)) fun v22 =>
      some (.inl (e21.1, e21.2.1, v22, e21.2.2))
    )
  
  else
    some (.inr (t3.2.1, t3.2.2.2))
noncomputable def X11_bestSwap (σ : jq_M) : Option (Int × jq_M) :=
  (X11_seatsNow σ).bind fun s1 =>
  (X11_worthOfAll s1).bind fun v2 =>
  (jq_lp (X11_bestSwap_b13) (v2, (-1), 0, s1)).bind (fun e23 =>
    jq_b2 (X11_orNone e23.1 e23.2) fun v24 s25 =>
    some (v24, s25)
  )
noncomputable def X11_bestTurn_b26 (t3 : Int × Int × Int × jq_M) (t5 : Int × jq_M) : Option ((Int × jq_M) ⊕ (jq_M)) :=
  (jq_ld t5.2 1 3174 1).bind fun v6 =>
  if t5.1 < v6 then
    (X11_seatOf t5.1 t5.2).bind fun v7 =>
    if v7 = (-1) then
      (jq_sa t5.2 9 5 t5.1 (-1)).bind fun s13 =>
      jq_lt (jq_w (t5.1 + 1)) fun v14 =>
      some (.inl (v14, s13))
    
    else
      (X11_seatOf t5.1 t5.2).bind fun v8 =>
      (jq_ld t5.2 1 3174 0).bind fun v9 =>
      (jq_rem (jq_w (v8 + t3.2.2.1)) v9).bind fun v10 =>
      (jq_sa t5.2 9 5 t5.1 v10).bind fun s11 =>
      jq_lt (jq_w (t5.1 + 1)) fun v12 =>
      some (.inl (v12, s11))
  
  else
    some (.inr t5.2)
noncomputable def X11_bestTurn_b13  (t3 : Int × Int × Int × jq_M) : Option ((Int × Int × Int × jq_M) ⊕ (Int × jq_M)) :=
  (jq_ld t3.2.2.2 1 3174 0).bind fun v4 =>
  if t3.2.2.1 < v4 then
    (jq_lp (X11_bestTurn_b26 t3) (0, t3.2.2.2)).bind (fun e15 =>
      (X11_worthOfAll e15).bind fun v16 =>
      if t3.1 < v16 then
        (X11_worthOfAll e15).bind fun v17 =>
        jq_lt (jq_w (t3.2.2.1 + 1)) fun v18 =>
        some (.inl (v17, t3.2.2.1, v18, e15))
      
      else
        jq_lt (jq_w (t3.2.2.1 + 1)) fun v19 =>
        some (.inl (t3.1, t3.2.1, v19, e15))
    )
  
  else
    some (.inr (t3.2.1, t3.2.2.2))
noncomputable def X11_bestTurn (σ : jq_M) : Option (Int × jq_M) :=
  (X11_seatsNow σ).bind fun s1 =>
  (X11_worthOfAll s1).bind fun v2 =>
  (jq_lp (X11_bestTurn_b13) (v2, (-1), 1, s1)).bind (fun e20 =>
    jq_b2 (X11_orNone e20.1 e20.2) fun v21 s22 =>
    some (v21, s22)
  )
noncomputable def X11_signsBy_j46 (p1 : Int) (p2 : Int) (s5 : jq_M) : Option (Int × jq_M) :=
  (X11_swapsSeats p1 p2 s5).bind fun s6 =>
  (X11_signing s6).bind fun v7 =>
  jq_b2 (X11_gives v7 s6) fun v8 s9 =>
  some (v8, s9)
noncomputable def X11_signsBy (p1 : Int) (p2 : Int) (σ : jq_M) : Option (Int × jq_M) :=
  (X11_areTwo p1 p2 σ).bind fun v1 =>
  if v1 = 0 then
    jq_b2 (X11_refuse 1 σ) fun v13 s14 =>
    some (v13, s14)
  
  else
    (X11_seatsNow σ).bind fun s3 =>
    (jq_ld s3 9 5 p1).bind fun v4 =>
    if v4 = (-1) then
      (jq_ld s3 9 5 p2).bind fun v10 =>
      if v10 = (-1) then
        jq_b2 (X11_refuse 7 s3) fun v11 s12 =>
        some (v11, s12)
      
      else
        X11_signsBy_j46 p1 p2 s3
    
    else
      X11_signsBy_j46 p1 p2 s3
noncomputable def X11_keepsSeats_b2 (p1 : Int) (t1 : Int × jq_M) : Option ((Int × jq_M) ⊕ (jq_M)) :=
  if t1.1 < 5 then
    (jq_ld t1.2 9 5 t1.1).bind fun v2 =>
    (jq_sa t1.2 12 20 (jq_w ((jq_w (5 * p1)) + t1.1)) v2).bind fun s3 =>
    jq_lt (jq_w (t1.1 + 1)) fun v4 =>
    some (.inl (v4, s3))
  
  else
    some (.inr t1.2)
noncomputable def X11_keepsSeats (p1 : Int) (σ : jq_M) : Option (jq_M) :=
  (jq_lp (X11_keepsSeats_b2 p1) (0, σ)).bind (fun e5 =>
    some e5
  )
noncomputable def X11_givesSeats_b2 (p1 : Int) (t1 : Int × jq_M) : Option ((Int × jq_M) ⊕ (jq_M)) :=
  if t1.1 < 5 then
    (jq_ld t1.2 12 20 (jq_w ((jq_w (5 * p1)) + t1.1))).bind fun v2 =>
    (jq_sa t1.2 9 5 t1.1 v2).bind fun s3 =>
    jq_lt (jq_w (t1.1 + 1)) fun v4 =>
    some (.inl (v4, s3))
  
  else
    some (.inr t1.2)
noncomputable def X11_givesSeats (p1 : Int) (σ : jq_M) : Option (jq_M) :=
  (jq_lp (X11_givesSeats_b2 p1) (0, σ)).bind (fun e5 =>
    some e5
  )
noncomputable def X11_weighs_j42 (p1 : Int) (p2 : Int) (s2 : jq_M) : Option (jq_M) :=
  (jq_sa s2 11 4 p1 p2).bind fun s3 =>
  if p1 = 0 then
    (jq_ld s3 10 4 0).bind fun v4 =>
    jq_lt (jq_st s3 0 27 v4) fun s5 =>
    some s5
  
  else
    some s3
noncomputable def X11_weighs (p1 : Int) (p2 : Int) (σ : jq_M) : Option (jq_M) :=
  (jq_ld σ 11 4 p1).bind fun v1 =>
  if v1 = 1000000 then
    X11_weighs_j42 p1 p2 σ
  
  else
    (jq_rem p1 2).bind fun v6 =>
    if v6 = 0 then
      (jq_ld σ 11 4 p1).bind fun v8 =>
      if v8 < p2 then
        X11_weighs_j42 p1 p2 σ
      
      else
        some σ
    
    else
      (jq_ld σ 11 4 p1).bind fun v7 =>
      if p2 < v7 then
        X11_weighs_j42 p1 p2 σ
      
      else
        some σ
noncomputable def X11_changes_b2 (p2 : Int) (σ : jq_M) (t1 : Int) : Option ((Int) ⊕ ((Int) ⊕ (Unit))) :=
  (jq_ld σ 1 3174 1).bind fun v2 =>
  if t1 < v2 then
    (jq_ld σ 9 5 t1).bind fun v3 =>
    if v3 = p2 then
      some (.inr (.inl t1))
    
    else
      jq_lt (jq_w (t1 + 1)) fun v4 =>
      some (.inl v4)
  
  else
    some (.inr (.inr ()))
noncomputable def X11_changes (p1 : Int) (p2 : Int) (σ : jq_M) : Option (jq_M) :=
  (jq_lp (X11_changes_b2 p2 σ) 0).bind (Sum.elim (fun e5 =>
    (jq_ld σ 9 5 p1).bind fun v6 =>
    (jq_sa σ 9 5 e5 v6).bind fun s7 =>
    (jq_sa s7 9 5 p1 p2).bind fun s8 =>
    some s8
  )
    (fun e9 =>
      (jq_sa σ 9 5 p1 p2).bind fun s10 =>
      some s10))
noncomputable def X11_playing_j181 (p1 : Int) (p2 : Int) (p3 : Int) (j21 : Int) (s22 : jq_M) : Option ((Int × jq_M) ⊕ (jq_M)) :=
  if jq_w (j21 + 1) < p3 then
    jq_lt (jq_w (j21 + 1)) fun v26 =>
    (jq_sa s22 10 4 v26 (-1)).bind fun s27 =>
    (jq_sa s27 11 4 v26 1000000).bind fun s28 =>
    (X11_keepsSeats v26 s28).bind fun s29 =>
    some (.inl (v26, s29))
  
  else
    (X11_worthOf p1 s22).bind fun v23 =>
    (X11_worthOf p2 s22).bind fun v24 =>
    (X11_weighs j21 (jq_w (v23 - v24)) s22).bind fun s25 =>
    some (.inl (j21, s25))
noncomputable def X11_playing_j130 (p1 : Int) (p2 : Int) (p3 : Int) (j14 : Int) (j15 : Int) (s16 : jq_M) : Option ((Int × jq_M) ⊕ (jq_M)) :=
  (jq_ld s16 10 4 j14).bind fun v17 =>
  (jq_ld s16 9 5 j15).bind fun v18 =>
  if v17 = v18 then
    some (.inl (j14, s16))
  
  else
    (jq_ld s16 10 4 j14).bind fun v19 =>
    (jq_ld s16 1 3174 0).bind fun v20 =>
    if v19 < v20 then
      (jq_ld s16 10 4 j14).bind fun v30 =>
      (X11_changes j15 v30 s16).bind fun s31 =>
      X11_playing_j181 p1 p2 p3 j14 s31
    
    else
      X11_playing_j181 p1 p2 p3 j14 s16
noncomputable def X11_playing_b54 (p1 : Int) (p2 : Int) (p3 : Int) (t7 : Int × jq_M) : Option ((Int × jq_M) ⊕ (jq_M)) :=
  if t7.1 < 0 then
    some (.inr t7.2)
  
  else
    (X11_givesSeats t7.1 t7.2).bind fun s8 =>
    (jq_ld s8 10 4 t7.1).bind fun v9 =>
    (jq_sa s8 10 4 t7.1 (jq_w (v9 + 1))).bind fun s10 =>
    (jq_ld s10 10 4 t7.1).bind fun v11 =>
    (jq_ld s10 1 3174 0).bind fun v12 =>
    if v12 < v11 then
      jq_lt (jq_w (t7.1 + (-1))) fun v32 =>
      if v32 < 0 then
        some (.inl (v32, s10))
      
      else
        (jq_ld s10 11 4 (jq_w (v32 + 1))).bind fun v33 =>
        (X11_weighs v32 v33 s10).bind fun s34 =>
        some (.inl (v32, s34))
    
    else
      (jq_rem t7.1 2).bind fun v13 =>
      if v13 = 0 then
        X11_playing_j130 p1 p2 p3 t7.1 p1 s10
      
      else
        X11_playing_j130 p1 p2 p3 t7.1 p2 s10
noncomputable def X11_playing (p1 : Int) (p2 : Int) (p3 : Int) (σ : jq_M) : Option (Int × jq_M) :=
  (X11_seatsNow σ).bind fun s1 =>
  (jq_ld s1 1 3174 0).bind fun v2 =>
  jq_lt (jq_st s1 0 27 v2) fun s3 =>
  if p3 = 0 then
    (X11_worthOf p1 s3).bind fun v37 =>
    (X11_worthOf p2 s3).bind fun v38 =>
    some (jq_w (v37 - v38), s3)
  
  else
    (jq_sa s3 10 4 0 (-1)).bind fun s4 =>
    (jq_sa s4 11 4 0 1000000).bind fun s5 =>
    (X11_keepsSeats 0 s5).bind fun s6 =>
    (jq_lp (X11_playing_b54 p1 p2 p3) (0, s6)).bind (fun e35 =>
      (jq_ld e35 11 4 0).bind fun v36 =>
      some (v36, e35)
    )
noncomputable def X11_wrongGame (p1 : Int) (p2 : Int) (p3 : Int) (p4 : Int) (σ : jq_M) : Option (Int) :=
  (X11_areTwo p1 p2 σ).bind fun v1 =>
  if v1 = 0 then
    some 1
  
  else
    (X11_isFrom p3 p4 3 σ).bind fun v3 =>
    if v3 = 0 then
      some 1
    
    else
      (X11_bothSit p1 p2 σ).bind fun v5 =>
      if v5 = 0 then
        some 7
      
      else
        some 0
noncomputable def X11_game (p1 : Int) (p2 : Int) (p3 : Int) (σ : jq_M) : Option (Int × jq_M) :=
  (X11_wrongGame p1 p2 p3 0 σ).bind fun v1 =>
  if 0 < v1 then
    jq_b2 (X11_refuse v1 σ) fun v6 s7 =>
    some (v6, s7)
  
  else
    jq_b2 (X11_playing p1 p2 p3 σ) fun v2 s3 =>
    jq_b2 (X11_gives v2 s3) fun v4 s5 =>
    some (v4, s5)
noncomputable def X11_moveOf (p1 : Int) (p2 : Int) (p3 : Int) (σ : jq_M) : Option (Int × jq_M) :=
  (X11_wrongGame p1 p2 p3 1 σ).bind fun v1 =>
  if 0 < v1 then
    jq_b2 (X11_refuse v1 σ) fun v9 s10 =>
    some (v9, s10)
  
  else
    jq_b2 (X11_playing p1 p2 p3 σ) fun v2 s3 =>
    (jq_ld s3 1 3174 0).bind fun v4 =>
    if s3 0 27 = v4 then
      jq_b2 (X11_refuse 6 s3) fun v7 s8 =>
      some (v7, s8)
    
    else
      jq_b2 (X11_gives (s3 0 27) s3) fun v5 s6 =>
      some (v5, s6)
noncomputable def X11_leansOf_b16 (σ : jq_M) (t4 : Int × Int) : Option ((Int × Int) ⊕ (Int)) :=
  if t4.2 < 0 then
    some (.inr t4.1)
  
  else
    (X11_isIn t4.1 t4.2 σ).bind fun v5 =>
    if v5 = 0 then
      jq_lt (jq_or t4.1 0) fun v7 =>
      jq_lt (jq_w (t4.2 + (-1))) fun v8 =>
      some (.inl (v7, v8))
    
    else
      (X11_articleRow t4.2 σ).bind fun v9 =>
      (jq_ld σ 1 3174 (jq_w (v9 + 2))).bind fun v10 =>
      jq_lt (jq_or t4.1 v10) fun v11 =>
      jq_lt (jq_w (t4.2 + (-1))) fun v12 =>
      some (.inl (v11, v12))
noncomputable def X11_leansOf (p1 : Int) (σ : jq_M) : Option (Int) :=
  (X11_articleRow p1 σ).bind fun v1 =>
  (jq_ld σ 1 3174 (jq_w (v1 + 2))).bind fun v2 =>
  jq_lt (jq_w (p1 - 1)) fun v3 =>
  (jq_lp (X11_leansOf_b16 σ) (v2, v3)).bind (fun e13 =>
    some e13
  )
noncomputable def X11_leans (p1 : Int) (σ : jq_M) : Option (Int × jq_M) :=
  (X11_isArticle p1 σ).bind fun v1 =>
  if v1 = 0 then
    jq_b2 (X11_refuse 1 σ) fun v3 s4 =>
    some (v3, s4)
  
  else
    (X11_leansOf p1 σ).bind fun v5 =>
    jq_b2 (X11_gives v5 σ) fun v6 s7 =>
    some (v6, s7)
noncomputable def X11_falls (p1 : Int) (σ : jq_M) : Option (Int × jq_M) :=
  (X11_isArticle p1 σ).bind fun v1 =>
  if v1 = 0 then
    jq_b2 (X11_refuse 1 σ) fun v3 s4 =>
    some (v3, s4)
  
  else
    (X11_fallsWith p1 σ).bind fun v5 =>
    jq_b2 (X11_gives v5 σ) fun v6 s7 =>
    some (v6, s7)
noncomputable def X11_keystone_b4 (σ : jq_M) (t1 : Int × Int) : Option ((Int × Int) ⊕ (Int)) :=
  (jq_ld σ 1 3174 3).bind fun v2 =>
  if t1.2 < v2 then
    if t1.1 = (-1) then
      jq_lt (jq_w (t1.2 + 1)) fun v3 =>
      some (.inl (t1.2, v3))
    
    else
      (X11_fallsWith t1.2 σ).bind fun v4 =>
      (X11_bits v4 σ).bind fun v5 =>
      (X11_fallsWith t1.1 σ).bind fun v6 =>
      (X11_bits v6 σ).bind fun v7 =>
      if v7 < v5 then
        jq_lt (jq_w (t1.2 + 1)) fun v9 =>
        some (.inl (t1.2, v9))
      
      else
        jq_lt (jq_w (t1.2 + 1)) fun v8 =>
        some (.inl (t1.1, v8))
  
  else
    some (.inr t1.1)
noncomputable def X11_keystone (σ : jq_M) : Option (Int × jq_M) :=
  (jq_lp (X11_keystone_b4 σ) ((-1), 0)).bind (fun e10 =>
    jq_b2 (X11_orNone e10 σ) fun v11 s12 =>
    some (v11, s12)
  )
noncomputable def X11_orders_b42 (v3 : Int) (j5 : Int) (t11 : Int × jq_M) : Option ((Int × jq_M) ⊕ (jq_M)) :=
  (jq_ld t11.2 1 3174 3).bind fun v12 =>
  if t11.1 < v12 then
    jq_lt (jq_and j5 (jq_xor (jq_shl 1 t11.1) (-1))) fun v13 =>
    (X11_isIn j5 t11.1 t11.2).bind fun v14 =>
    if v14 = 0 then
      jq_lt (jq_w (t11.1 + 1)) fun v16 =>
      some (.inl (v16, t11.2))
    
    else
      (X11_isIn v3 t11.1 t11.2).bind fun v17 =>
      if v17 = 0 then
        if jq_and v3 (jq_xor v13 (-1)) = 0 then
          (X11_articleRow t11.1 t11.2).bind fun v21 =>
          (jq_ld t11.2 1 3174 (jq_w (v21 + 2))).bind fun v22 =>
          if jq_and v22 (jq_xor v13 (-1)) = 0 then
            (jq_ld t11.2 13 256 j5).bind fun v24 =>
            (jq_ld t11.2 13 256 v13).bind fun v25 =>
            (jq_sa t11.2 13 256 j5 (jq_w (v24 + v25))).bind fun s26 =>
            jq_lt (jq_w (t11.1 + 1)) fun v27 =>
            some (.inl (v27, s26))
          
          else
            jq_lt (jq_w (t11.1 + 1)) fun v23 =>
            some (.inl (v23, t11.2))
        
        else
          jq_lt (jq_w (t11.1 + 1)) fun v20 =>
          some (.inl (v20, t11.2))
      
      else
        jq_lt (jq_w (t11.1 + 1)) fun v19 =>
        some (.inl (v19, t11.2))
  
  else
    some (.inr t11.2)
noncomputable def X11_orders_j38 (v2 : Int) (v3 : Int) (j5 : Int) (j6 : Int) (j7 : Int) (s9 : jq_M) : Option ((Int × jq_M) ⊕ (jq_M)) :=
  (jq_sa s9 13 256 j6 j7).bind fun s10 =>
  (jq_lp (X11_orders_b42 v3 j5) (0, s10)).bind (fun e28 =>
    jq_lt (jq_w (j5 + 1)) fun v29 =>
    some (.inl (v29, e28))
  )
noncomputable def X11_orders_b18 (v2 : Int) (v3 : Int) (t4 : Int × jq_M) : Option ((Int × jq_M) ⊕ (jq_M)) :=
  if v2 < t4.1 then
    some (.inr t4.2)
  
  else
    if t4.1 = v3 then
      X11_orders_j38 v2 v3 t4.1 t4.1 1 t4.2
    
    else
      X11_orders_j38 v2 v3 t4.1 t4.1 0 t4.2
noncomputable def X11_orders (σ : jq_M) : Option (Int × jq_M) :=
  (jq_ld σ 1 3174 3).bind fun v1 =>
  jq_lt (jq_w ((jq_shl 1 v1) - 1)) fun v2 =>
  (X11_agreedNow σ).bind fun v3 =>
  (jq_lp (X11_orders_b18 v2 v3) (0, σ)).bind (fun e30 =>
    (jq_ld e30 13 256 v2).bind fun v31 =>
    jq_b2 (X11_gives v31 e30) fun v32 s33 =>
    some (v32, s33)
  )
noncomputable def X11_keeps_b2 (p1 : Int) (t1 : Int × jq_M) : Option ((Int × jq_M) ⊕ (jq_M)) :=
  if t1.1 < 138 then
    (jq_ld t1.2 1 3174 t1.1).bind fun v2 =>
    (jq_sa t1.2 1 3174 (jq_w (p1 + t1.1)) v2).bind fun s3 =>
    jq_lt (jq_w (t1.1 + 1)) fun v4 =>
    some (.inl (v4, s3))
  
  else
    some (.inr t1.2)
noncomputable def X11_keeps (p1 : Int) (σ : jq_M) : Option (jq_M) :=
  (jq_lp (X11_keeps_b2 p1) (0, σ)).bind (fun e5 =>
    some e5
  )
noncomputable def X11_restores_b2 (p1 : Int) (t1 : Int × jq_M) : Option ((Int × jq_M) ⊕ (jq_M)) :=
  if t1.1 < 138 then
    (jq_ld t1.2 1 3174 (jq_w (p1 + t1.1))).bind fun v2 =>
    (jq_sa t1.2 1 3174 t1.1 v2).bind fun s3 =>
    jq_lt (jq_w (t1.1 + 1)) fun v4 =>
    some (.inl (v4, s3))
  
  else
    some (.inr t1.2)
noncomputable def X11_restores (p1 : Int) (σ : jq_M) : Option (jq_M) :=
  (jq_lp (X11_restores_b2 p1) (0, σ)).bind (fun e5 =>
    some e5
  )
noncomputable def X11_soonest_b23 (p1 : Int) (t4 : Int × jq_M) : Option ((Int × jq_M) ⊕ (Int × jq_M)) :=
  (X11_isAgreed p1 t4.2).bind fun v5 =>
  if v5 = 0 then
    jq_b2 (X11_dayGoes t4.2) fun v7 s8 =>
    jq_lt (jq_w (t4.1 + 1)) fun v9 =>
    some (.inl (v9, s8))
  
  else
    some (.inr (t4.1, t4.2))
noncomputable def X11_soonest (p1 : Int) (σ : jq_M) : Option (Int × jq_M) :=
  (X11_isArticle p1 σ).bind fun v1 =>
  if v1 = 0 then
    jq_b2 (X11_refuse 1 σ) fun v14 s15 =>
    some (v14, s15)
  
  else
    (X11_keeps 3036 σ).bind fun s3 =>
    (jq_lp (X11_soonest_b23 p1) (0, s3)).bind (fun e10 =>
      (X11_restores 3036 e10.2).bind fun s11 =>
      jq_b2 (X11_gives e10.1 s11) fun v12 s13 =>
      some (v12, s13)
    )
noncomputable def X11_chain_b36 (t3 : Int × jq_M) (v4 : Int) (t6 : Int × jq_M) : Option ((Int × jq_M) ⊕ (jq_M)) :=
  if t6.1 < t3.1 then
    (X11_isAgreed t3.1 t6.2).bind fun v7 =>
    if v7 = 0 then
      (jq_ld t6.2 1 3174 (jq_w (v4 + 2))).bind fun v9 =>
      (X11_isIn v9 t6.1 t6.2).bind fun v10 =>
      if v10 = 0 then
        jq_lt (jq_w (t6.1 + 1)) fun v12 =>
        some (.inl (v12, t6.2))
      
      else
        (jq_ld t6.2 14 8 t3.1).bind fun v13 =>
        (jq_ld t6.2 14 8 t6.1).bind fun v14 =>
        (jq_sa t6.2 14 8 t3.1 (jq_max v13 v14)).bind fun s15 =>
        jq_lt (jq_w (t6.1 + 1)) fun v16 =>
        some (.inl (v16, s15))
    
    else
      some (.inr t6.2)
  
  else
    some (.inr t6.2)
noncomputable def X11_chain_j95 (p1 : Int) (j18 : Int) (j19 : Int) (s20 : jq_M) : Option ((Int × jq_M) ⊕ (jq_M)) :=
  (jq_ld s20 14 8 j18).bind fun v21 =>
  (X11_isAgreed j18 s20).bind fun v22 =>
  if v22 = 0 then
    (jq_ld s20 1 3174 j19).bind fun v24 =>
    (jq_ld s20 1 3174 (jq_w (j19 + 3))).bind fun v25 =>
    (jq_sa s20 14 8 j18 (jq_w (v21 + (jq_w (v24 - v25))))).bind fun s26 =>
    jq_lt (jq_w (j18 + 1)) fun v27 =>
    some (.inl (v27, s26))
  
  else
    (jq_sa s20 14 8 j18 (jq_w (v21 + 0))).bind fun s28 =>
    jq_lt (jq_w (j18 + 1)) fun v29 =>
    some (.inl (v29, s28))
noncomputable def X11_chain_b16 (p1 : Int) (t3 : Int × jq_M) : Option ((Int × jq_M) ⊕ (jq_M)) :=
  if p1 < t3.1 then
    some (.inr t3.2)
  
  else
    (X11_articleRow t3.1 t3.2).bind fun v4 =>
    (jq_sa t3.2 14 8 t3.1 0).bind fun s5 =>
    (jq_lp (X11_chain_b36 t3 v4) (0, s5)).bind (fun e17 =>
      X11_chain_j95 p1 t3.1 v4 e17
    )
noncomputable def X11_chain (p1 : Int) (σ : jq_M) : Option (Int × jq_M) :=
  (X11_isArticle p1 σ).bind fun v1 =>
  if v1 = 0 then
    jq_b2 (X11_refuse 1 σ) fun v34 s35 =>
    some (v34, s35)
  
  else
    (jq_lp (X11_chain_b16 p1) (0, σ)).bind (fun e30 =>
      (jq_ld e30 14 8 p1).bind fun v31 =>
      jq_b2 (X11_gives v31 e30) fun v32 s33 =>
      some (v32, s33)
    )
noncomputable def X11_agreedIn (p1 : Int) (σ : jq_M) : Option (Int × jq_M) :=
  (X11_isFrom p1 0 300 σ).bind fun v1 =>
  if v1 = 0 then
    jq_b2 (X11_refuse 1 σ) fun v10 s11 =>
    some (v10, s11)
  
  else
    (X11_keeps 3036 σ).bind fun s3 =>
    jq_b2 (X11_daysGo p1 s3) fun v4 s5 =>
    (X11_agreedNow s5).bind fun v6 =>
    (X11_restores 3036 s5).bind fun s7 =>
    jq_b2 (X11_gives v6 s7) fun v8 s9 =>
    some (v8, s9)
noncomputable def X11_luckOf_b15 (σ : jq_M) (v2 : Int) (t3 : Int × Int) : Option ((Int × Int) ⊕ (Int)) :=
  if t3.2 < 8 then
    (X11_isIn v2 t3.2 σ).bind fun v4 =>
    if v4 = 0 then
      jq_lt (jq_w64 (t3.1 * 16)) fun v6 =>
      jq_lt (jq_w (t3.2 + 1)) fun v7 =>
      some (.inl (v6, v7))
    
    else
      (X11_articleRow t3.2 σ).bind fun v8 =>
      (jq_ld σ 1 3174 (jq_w (v8 + 1))).bind fun v9 =>
      jq_lt (jq_w64 (t3.1 * v9)) fun v10 =>
      jq_lt (jq_w (t3.2 + 1)) fun v11 =>
      some (.inl (v10, v11))
  
  else
    some (.inr t3.1)
noncomputable def X11_luckOf (p1 : Int) (σ : jq_M) : Option (Int) :=
  (X11_leansOf p1 σ).bind fun v1 =>
  jq_lt (jq_or v1 (jq_shl 1 p1)) fun v2 =>
  (jq_lp (X11_luckOf_b15 σ v2) (1, 0)).bind (fun e12 =>
    some e12
  )
noncomputable def X11_luck (p1 : Int) (σ : jq_M) : Option (Int × jq_M) :=
  (X11_isArticle p1 σ).bind fun v1 =>
  if v1 = 0 then
    jq_b2 (X11_is 1 σ) fun v3 s4 =>
    some (v3, s4)
  
  else
    (X11_luckOf p1 σ).bind fun v6 =>
    jq_b2 (X11_tellsBy v6 4294967296 σ) fun v7 s8 =>
    some (v7, s8)
noncomputable def X11_weakest_b4 (σ : jq_M) (t1 : Int × Int) : Option ((Int × Int) ⊕ (Int)) :=
  (jq_ld σ 1 3174 3).bind fun v2 =>
  if t1.2 < v2 then
    if t1.1 = (-1) then
      jq_lt (jq_w (t1.2 + 1)) fun v3 =>
      some (.inl (t1.2, v3))
    
    else
      (X11_luckOf t1.2 σ).bind fun v4 =>
      (X11_luckOf t1.1 σ).bind fun v5 =>
      if jq_cmp v4 v5 < 0 then
        jq_lt (jq_w (t1.2 + 1)) fun v7 =>
        some (.inl (t1.2, v7))
      
      else
        jq_lt (jq_w (t1.2 + 1)) fun v6 =>
        some (.inl (t1.1, v6))
  
  else
    some (.inr t1.1)
noncomputable def X11_weakest (σ : jq_M) : Option (Int × jq_M) :=
  (jq_lp (X11_weakest_b4 σ) ((-1), 0)).bind (fun e8 =>
    jq_b2 (X11_orNone e8 σ) fun v9 s10 =>
    some (v9, s10)
  )
noncomputable def X11_copySeats_b52 (p1 : Int) (t6 : Int × jq_M) : Option ((Int × jq_M) ⊕ (jq_M)) :=
  (jq_ld t6.2 1 3174 1).bind fun v7 =>
  if t6.1 < v7 then
    (X11_seatOf t6.1 t6.2).bind fun v8 =>
    (jq_ld t6.2 3 4 p1).bind fun v9 =>
    (X11_cut v8 v9 t6.2).bind fun v10 =>
    (jq_sa t6.2 5 240 (jq_w ((jq_w (60 * p1)) + t6.1)) v10).bind fun s11 =>
    jq_lt (jq_w (t6.1 + 1)) fun v12 =>
    some (.inl (v12, s11))
  
  else
    some (.inr t6.2)
noncomputable def X11_copySeats (p1 : Int) (σ : jq_M) : Option (Int × jq_M) :=
  (X11_isTray p1 σ).bind fun v1 =>
  if v1 = 0 then
    jq_b2 (X11_refuse 1 σ) fun v21 s22 =>
    some (v21, s22)
  
  else
    (jq_ld σ 4 4 p1).bind fun v3 =>
    if v3 = (-1) then
      jq_b2 (X11_refuse 2 σ) fun v19 s20 =>
      some (v19, s20)
    
    else
      (jq_ld σ 4 4 p1).bind fun v4 =>
      (jq_ld σ 1 3174 1).bind fun v5 =>
      if v4 < v5 then
        jq_b2 (X11_refuse 3 σ) fun v17 s18 =>
        some (v17, s18)
      
      else
        (jq_lp (X11_copySeats_b52 p1) (0, σ)).bind (fun e13 =>
          (jq_ld e13 1 3174 1).bind fun v14 =>
          jq_b2 (X11_gives v14 e13) fun v15 s16 =>
          some (v15, s16)
        )
noncomputable def X11_wrongSeats_j105 (p1 : Int) (σ : jq_M) (j12 : Int) (j13 : Int) (j14 : Int) : Option ((Int × Int) ⊕ ((Unit) ⊕ (Unit))) :=
  if jq_cmp j14 0 < 0 then
    jq_lt (jq_or j12 0) fun v15 =>
    jq_lt (jq_w (j13 + 1)) fun v16 =>
    some (.inl (v15, v16))
  
  else
    jq_lt (jq_or j12 (jq_shl 1 (jq_w j14))) fun v17 =>
    jq_lt (jq_w (j13 + 1)) fun v18 =>
    some (.inl (v17, v18))
noncomputable def X11_wrongSeats_b42 (p1 : Int) (σ : jq_M) (t6 : Int × Int) : Option ((Int × Int) ⊕ ((Unit) ⊕ (Unit))) :=
  (jq_ld σ 1 3174 1).bind fun v7 =>
  if t6.2 < v7 then
    (jq_ld σ 5 240 (jq_w ((jq_w (60 * p1)) + t6.2))).bind fun v8 =>
    (jq_ld σ 1 3174 0).bind fun v9 =>
    (X11_isFrom v8 (-1) (jq_w64 (v9 - 1)) σ).bind fun v10 =>
    if v10 = 0 then
      some (.inr (.inl ()))
    
    else
      if jq_cmp v8 0 < 0 then
        X11_wrongSeats_j105 p1 σ t6.1 t6.2 v8
      
      else
        (X11_isIn t6.1 (jq_w v8) σ).bind fun v19 =>
        if v19 = 0 then
          X11_wrongSeats_j105 p1 σ t6.1 t6.2 v8
        
        else
          some (.inr (.inl ()))
  
  else
    some (.inr (.inr ()))
noncomputable def X11_wrongSeats (p1 : Int) (σ : jq_M) : Option (Int) :=
  (X11_isTray p1 σ).bind fun v1 =>
  if v1 = 0 then
    some 1
  
  else
    (jq_ld σ 4 4 p1).bind fun v3 =>
    if v3 = (-1) then
      some 2
    
    else
      (jq_ld σ 4 4 p1).bind fun v4 =>
      (jq_ld σ 1 3174 1).bind fun v5 =>
      if v4 < v5 then
        some 3
      
      else
        (jq_lp (X11_wrongSeats_b42 p1 σ) (0, 0)).bind (Sum.elim (fun e21 =>
          some 5
        )
          (fun e22 =>
            some 0))
noncomputable def X11_seatBy_b18 (p1 : Int) (t2 : Int × jq_M) : Option ((Int × jq_M) ⊕ (jq_M)) :=
  (jq_ld t2.2 1 3174 1).bind fun v3 =>
  if t2.1 < v3 then
    (X11_partyRow t2.1 t2.2).bind fun v4 =>
    (jq_ld t2.2 5 240 (jq_w ((jq_w (60 * p1)) + t2.1))).bind fun v5 =>
    (jq_sa t2.2 1 3174 (jq_w (v4 + 1)) (jq_w v5)).bind fun s6 =>
    jq_lt (jq_w (t2.1 + 1)) fun v7 =>
    some (.inl (v7, s6))
  
  else
    some (.inr t2.2)
noncomputable def X11_seatBy (p1 : Int) (σ : jq_M) : Option (Int × jq_M) :=
  (X11_wrongSeats p1 σ).bind fun v1 =>
  if 0 < v1 then
    jq_b2 (X11_refuse v1 σ) fun v13 s14 =>
    some (v13, s14)
  
  else
    (jq_lp (X11_seatBy_b18 p1) (0, σ)).bind (fun e8 =>
      (X11_seatsNow e8).bind fun s9 =>
      (X11_signing s9).bind fun v10 =>
      jq_b2 (X11_gives v10 s9) fun v11 s12 =>
      some (v11, s12)
    )
noncomputable def X11_draw (p1 : Int) (σ : jq_M) : Option (Int × jq_M) :=
  (jq_rem (jq_w ((jq_w ((σ 0 30) * 3061)) + 11279)) 65536).bind fun v1 =>
  jq_lt (jq_st σ 0 30 v1) fun s2 =>
  (jq_div (s2 0 30) 8).bind fun v3 =>
  (jq_rem v3 p1).bind fun v4 =>
  some (v4, s2)
noncomputable def X11_risesBy_j14 (p1 : Int) (j2 : Int) (s4 : jq_M) : Option (Int × jq_M) :=
  (X11_partyRow p1 s4).bind fun v5 =>
  (jq_sa s4 1 3174 (jq_w (v5 + 1)) (-1)).bind fun s6 =>
  some (j2, s6)
noncomputable def X11_risesBy (p1 : Int) (σ : jq_M) : Option (Int × jq_M) :=
  (X11_seatOf p1 σ).bind fun v1 =>
  if v1 = (-1) then
    X11_risesBy_j14 p1 0 σ
  
  else
    X11_risesBy_j14 p1 1 σ
noncomputable def X11_turnsAll (p1 : Int) (σ : jq_M) : Option (Int × jq_M) :=
  (X11_turnsBy p1 σ).bind fun s1 =>
  some (1, s1)
noncomputable def X11_daysBy (p1 : Int) (σ : jq_M) : Option (Int × jq_M) :=
  (jq_ld σ 1 3174 4).bind fun v1 =>
  if 9999 < jq_w (v1 + p1) then
    some (0, σ)
  
  else
    (jq_ld σ 16 5 2).bind fun v2 =>
    jq_b2 (X11_daysGo p1 σ) fun v3 s4 =>
    (jq_sa s4 16 5 2 (jq_w (v2 + v3))).bind fun s5 =>
    (jq_ld s5 16 5 1).bind fun v6 =>
    (jq_sa s5 16 5 1 (jq_w (v6 + p1))).bind fun s7 =>
    some (1, s7)
noncomputable def X11_agreesBy (p1 : Int) (σ : jq_M) : Option (Int × jq_M) :=
  jq_b2 (X11_agrees p1 σ) fun v1 s2 =>
  if v1 = 0 then
    some (0, s2)
  
  else
    (jq_ld s2 16 5 2).bind fun v4 =>
    (jq_sa s2 16 5 2 (jq_w (v4 + 1))).bind fun s5 =>
    some (1, s5)
noncomputable def X11_withdrawsBy (p1 : Int) (σ : jq_M) : Option (Int × jq_M) :=
  (X11_isAgreed p1 σ).bind fun v1 =>
  if v1 = 0 then
    some (0, σ)
  
  else
    (jq_ld σ 16 5 3).bind fun v3 =>
    jq_b2 (X11_fallsNow p1 σ) fun v4 s5 =>
    (jq_sa s5 16 5 3 (jq_w (v3 + v4))).bind fun s6 =>
    some (1, s6)
noncomputable def X11_sitsAny (σ : jq_M) : Option (Int × jq_M) :=
  (jq_ld σ 1 3174 1).bind fun v1 =>
  if v1 = 0 then
    some (0, σ)
  
  else
    (jq_ld σ 1 3174 1).bind fun v2 =>
    jq_b2 (X11_draw v2 σ) fun v3 s4 =>
    (jq_ld s4 1 3174 0).bind fun v5 =>
    jq_b2 (X11_draw v5 s4) fun v6 s7 =>
    jq_b2 (X11_sits v3 v6 s7) fun v8 s9 =>
    some (v8, s9)
noncomputable def X11_does (p1 : Int) (σ : jq_M) : Option (Int × jq_M) :=
  (jq_ld σ 1 3174 (jq_w (p1 + 1))).bind fun v1 =>
  (jq_ld σ 1 3174 p1).bind fun v2 =>
  if v2 = 13 then
    (jq_ld σ 1 3174 (jq_w (p1 + 2))).bind fun v4 =>
    jq_b2 (X11_sits v1 v4 σ) fun v5 s6 =>
    some (v5, s6)
  
  else
    if v2 = 14 then
      jq_b2 (X11_risesBy v1 σ) fun v9 s10 =>
      some (v9, s10)
    
    else
      if v2 = 15 then
        (jq_ld σ 1 3174 (jq_w (p1 + 2))).bind fun v13 =>
        jq_b2 (X11_swaps v1 v13 σ) fun v14 s15 =>
        some (v14, s15)
      
      else
        if v2 = 16 then
          jq_b2 (X11_turnsAll v1 σ) fun v18 s19 =>
          some (v18, s19)
        
        else
          if v2 = 17 then
            jq_b2 (X11_daysBy v1 σ) fun v22 s23 =>
            some (v22, s23)
          
          else
            if v2 = 18 then
              jq_b2 (X11_agreesBy v1 σ) fun v26 s27 =>
              some (v26, s27)
            
            else
              if v2 = 19 then
                jq_b2 (X11_withdrawsBy v1 σ) fun v30 s31 =>
                some (v30, s31)
              
              else
                if v2 = 20 then
                  jq_b2 (X11_sitsAny σ) fun v34 s35 =>
                  some (v34, s35)
                
                else
                  some (1, σ)
noncomputable def X11_holds (p1 : Int) (σ : jq_M) : Option (Int × jq_M) :=
  (jq_ld σ 1 3174 p1).bind fun v1 =>
  jq_lt (jq_w (v1 - 2100)) fun v2 =>
  (X11_seatsNow σ).bind fun s3 =>
  if v2 = 27 then
    (X11_worthOfAll s3).bind fun v4 =>
    (jq_ld s3 1 3174 (jq_w (p1 + 5))).bind fun v5 =>
    if v5 = 60 then
      (jq_ld s3 1 3174 (jq_w (p1 + 2))).bind fun v9 =>
      if v4 < v9 then
        some (1, s3)
      
      else
        some (0, s3)
    
    else
      (jq_ld s3 1 3174 (jq_w (p1 + 5))).bind fun v6 =>
      if v6 = 62 then
        (jq_ld s3 1 3174 (jq_w (p1 + 2))).bind fun v8 =>
        if v8 < v4 then
          some (1, s3)
        
        else
          some (0, s3)
      
      else
        (jq_ld s3 1 3174 (jq_w (p1 + 2))).bind fun v7 =>
        if v4 = v7 then
          some (1, s3)
        
        else
          some (0, s3)
  
  else
    if v2 = 25 then
      (jq_ld s3 1 3174 (jq_w (p1 + 1))).bind fun v13 =>
      (X11_doesSign v13 s3).bind fun v14 =>
      some (v14, s3)
    
    else
      (jq_ld s3 1 3174 (jq_w (p1 + 1))).bind fun v10 =>
      (X11_isAgreed v10 s3).bind fun v11 =>
      some (v11, s3)
noncomputable def X11_behindEnds_j98  (j15 : Int) (j16 : Int) (j17 : Int) (j18 : Int) (j19 : Int) (j20 : Int) (s22 : jq_M) : Option ((Int × jq_M) ⊕ (Int × jq_M)) :=
  (jq_sa s22 15 80 j18 (jq_w (j19 - j20))).bind fun s23 =>
  if j17 = 0 then
    jq_lt (jq_w (j15 + 1)) fun v24 =>
    some (.inl (v24, s23))
  
  else
    jq_lt (jq_w (j16 + 1)) fun v25 =>
    some (.inl (v25, s23))
noncomputable def X11_behindEnds_j79  (j9 : Int) (j10 : Int) (j11 : Int) (s13 : jq_M) : Option ((Int × jq_M) ⊕ (Int × jq_M)) :=
  (jq_ld s13 15 80 j10).bind fun v14 =>
  if j11 = 0 then
    X11_behindEnds_j98 j9 j10 j11 j10 v14 0 s13
  
  else
    X11_behindEnds_j98 j9 j10 j11 j10 v14 1 s13
noncomputable def X11_behindEnds_j78  (j6 : Int) (j7 : Int) (s8 : jq_M) : Option ((Int × jq_M) ⊕ (Int × jq_M)) :=
  X11_behindEnds_j79 j6 j7 0 s8
noncomputable def X11_behindEnds_b2  (t1 : Int × jq_M) : Option ((Int × jq_M) ⊕ (Int × jq_M)) :=
  (jq_ld t1.2 1 3174 6).bind fun v2 =>
  if t1.1 < v2 then
    (jq_ld t1.2 1 3174 (jq_w (138 + (jq_w (6 * t1.1))))).bind fun v3 =>
    if v3 = 23 then
      (jq_ld t1.2 1 3174 (jq_w ((jq_w (138 + (jq_w (6 * t1.1)))) + 4))).bind fun v4 =>
      (jq_ld t1.2 1 3174 (jq_w (138 + (jq_w (6 * v4))))).bind fun v5 =>
      if v5 = 22 then
        (jq_ld t1.2 15 80 v4).bind fun v26 =>
        if 0 < v26 then
          X11_behindEnds_j79 t1.1 v4 1 t1.2
        
        else
          X11_behindEnds_j78 t1.1 v4 t1.2
      
      else
        X11_behindEnds_j78 t1.1 v4 t1.2
    
    else
      some (.inr (t1.1, t1.2))
  
  else
    some (.inr (t1.1, t1.2))
noncomputable def X11_behindEnds (p1 : Int) (σ : jq_M) : Option (Int × jq_M) :=
  (jq_lp (X11_behindEnds_b2) (p1, σ)).bind (fun e27 =>
    some (e27.1, e27.2)
  )
noncomputable def X11_lives_b12  (t3 : Int × jq_M) : Option ((Int × jq_M) ⊕ (jq_M)) :=
  if t3.1 < 5 then
    (jq_sa t3.2 16 5 t3.1 0).bind fun s4 =>
    jq_lt (jq_w (t3.1 + 1)) fun v5 =>
    some (.inl (v5, s4))
  
  else
    some (.inr t3.2)
noncomputable def X11_lives_j178  (j32 : Int) (s33 : jq_M) : Option ((Int × jq_M) ⊕ ((jq_M) ⊕ ((jq_M) ⊕ (jq_M)))) :=
  jq_b2 (X11_behindEnds j32 s33) fun v34 s35 =>
  some (.inl (v34, s35))
noncomputable def X11_lives_j175  (j30 : Int) (s31 : jq_M) : Option ((Int × jq_M) ⊕ ((jq_M) ⊕ ((jq_M) ⊕ (jq_M)))) :=
  X11_lives_j178 (jq_w (j30 + 1)) s31
noncomputable def X11_lives_j141  (j26 : Int) (j27 : Int) (s28 : jq_M) : Option ((Int × jq_M) ⊕ ((jq_M) ⊕ ((jq_M) ⊕ (jq_M)))) :=
  (jq_ld s28 1 3174 j27).bind fun v29 =>
  if v29 < 2100 then
    X11_lives_j175 j26 s28
  
  else
    jq_b2 (X11_holds j27 s28) fun v36 s37 =>
    if v36 = 0 then
      (jq_ld s37 1 3174 (jq_w (j27 + 4))).bind fun v39 =>
      X11_lives_j178 (jq_w (v39 + 1)) s37
    
    else
      X11_lives_j175 j26 s37
noncomputable def X11_lives_j112  (j16 : Int) (j17 : Int) (j18 : Int) (j20 : Int) (j21 : Int) (s23 : jq_M) : Option ((Int × jq_M) ⊕ ((jq_M) ⊕ ((jq_M) ⊕ (jq_M)))) :=
  (jq_sa s23 16 5 j18 (jq_w (j20 + j21))).bind fun s24 =>
  (jq_ld s24 1 3174 j17).bind fun v25 =>
  if v25 = 22 then
    (jq_ld s24 1 3174 (jq_w (j17 + 1))).bind fun v40 =>
    (jq_sa s24 15 80 j16 (jq_w (v40 - 1))).bind fun s41 =>
    X11_lives_j141 j16 j17 s41
  
  else
    X11_lives_j141 j16 j17 s24
noncomputable def X11_lives_b32  (t7 : Int × jq_M) : Option ((Int × jq_M) ⊕ ((jq_M) ⊕ ((jq_M) ⊕ (jq_M)))) :=
  (jq_ld t7.2 1 3174 6).bind fun v8 =>
  if t7.1 < v8 then
    if t7.2 0 31 = 300 then
      some (.inr (.inl t7.2))
    
    else
      jq_lt (jq_w (138 + (jq_w (6 * t7.1)))) fun v9 =>
      jq_lt (jq_st t7.2 0 31 (jq_w ((t7.2 0 31) + 1))) fun s10 =>
      (jq_ld s10 1 3174 v9).bind fun v11 =>
      if v11 = 24 then
        some (.inr (.inr (.inl s10)))
      
      else
        (jq_ld s10 16 5 0).bind fun v12 =>
        jq_b2 (X11_does v9 s10) fun v13 s14 =>
        if v13 = 0 then
          X11_lives_j112 t7.1 v9 0 v12 1 s14
        
        else
          X11_lives_j112 t7.1 v9 0 v12 0 s14
  
  else
    some (.inr (.inr (.inr t7.2)))
noncomputable def X11_lives (p1 : Int) (σ : jq_M) : Option (jq_M) :=
  jq_lt (jq_st σ 0 30 p1) fun s1 =>
  jq_lt (jq_st s1 0 31 0) fun s2 =>
  (jq_lp (X11_lives_b12) (0, s2)).bind (fun e6 =>
    (jq_lp (X11_lives_b32) (0, e6)).bind (Sum.elim (fun e42 =>
      (jq_sa e42 16 5 4 1).bind fun s43 =>
      some s43
    )
      (Sum.elim (fun e44 =>
        some e44
      )
        (fun e45 =>
          some e45)))
  )
noncomputable def X11_live_b43  (t5 : Int × jq_M) : Option ((Int × jq_M) ⊕ (jq_M)) :=
  if t5.1 < 5 then
    (jq_ld t5.2 16 5 t5.1).bind fun v6 =>
    (jq_sa t5.2 17 5 t5.1 v6).bind fun s7 =>
    jq_lt (jq_w (t5.1 + 1)) fun v8 =>
    some (.inl (v8, s7))
  
  else
    some (.inr t5.2)
noncomputable def X11_live (p1 : Int) (σ : jq_M) : Option (Int × jq_M) :=
  (X11_isFrom p1 0 9999 σ).bind fun v1 =>
  if v1 = 0 then
    jq_b2 (X11_refuse 1 σ) fun v15 s16 =>
    some (v15, s16)
  
  else
    (jq_ld σ 1 3174 6).bind fun v3 =>
    if v3 = (-1) then
      jq_b2 (X11_refuse 6 σ) fun v13 s14 =>
      some (v13, s14)
    
    else
      (X11_lives p1 σ).bind fun s4 =>
      (jq_lp (X11_live_b43) (0, s4)).bind (fun e9 =>
        jq_lt (jq_st e9 0 35 1) fun s10 =>
        jq_b2 (X11_gives (s10 0 31) s10) fun v11 s12 =>
        some (v11, s12)
      )
noncomputable def X11_lived_j9  (s1 : jq_M) : Option (Int × jq_M) :=
  jq_b2 (X11_refuse 1 s1) fun v2 s3 =>
  some (v2, s3)
noncomputable def X11_lived (p1 : Int) (σ : jq_M) : Option (Int × jq_M) :=
  if p1 < 0 then
    X11_lived_j9 σ
  
  else
    if 4 < p1 then
      X11_lived_j9 σ
    
    else
      jq_lt (σ 0 35) fun v4 =>
      if v4 = 0 then
        jq_b2 (X11_refuse 6 σ) fun v6 s7 =>
        some (v6, s7)
      
      else
        (jq_ld σ 17 5 p1).bind fun v8 =>
        jq_b2 (X11_gives v8 σ) fun v9 s10 =>
        some (v9, s10)
noncomputable def X11_mean_j35  (s3 : jq_M) : Option (Int × jq_M) :=
  jq_b2 (X11_is 1 s3) fun v4 s5 =>
  some (v4, s5)
noncomputable def X11_mean_b71 (p1 : Int) (p2 : Int) (t11 : Int × Int × jq_M) : Option ((Int × Int × jq_M) ⊕ (Int × jq_M)) :=
  if t11.2.1 < p2 then
    (X11_lives (jq_w (p1 + t11.2.1)) t11.2.2).bind fun s12 =>
    (X11_seatsNow s12).bind fun s13 =>
    (X11_worthOfAll s13).bind fun v14 =>
    jq_lt (jq_w64 (t11.1 + v14)) fun v15 =>
    (X11_restores 2530 s13).bind fun s16 =>
    jq_lt (jq_w (t11.2.1 + 1)) fun v17 =>
    some (.inl (v15, v17, s16))
  
  else
    some (.inr (t11.1, t11.2.2))
noncomputable def X11_mean (p1 : Int) (p2 : Int) (σ : jq_M) : Option (Int × jq_M) :=
  (X11_isFrom p1 0 9999 σ).bind fun v1 =>
  if v1 = 0 then
    X11_mean_j35 σ
  
  else
    (X11_isFrom p2 1 20 σ).bind fun v7 =>
    if v7 = 0 then
      X11_mean_j35 σ
    
    else
      if 9999 < jq_w ((jq_w (p1 + p2)) - 1) then
        X11_mean_j35 σ
      
      else
        (jq_ld σ 1 3174 6).bind fun v9 =>
        if v9 = (-1) then
          jq_b2 (X11_is 6 σ) fun v22 s23 =>
          some (v22, s23)
        
        else
          (X11_keeps 2530 σ).bind fun s10 =>
          (jq_lp (X11_mean_b71 p1 p2) (0, 0, s10)).bind (fun e18 =>
            jq_b2 (X11_tellsBy e18.1 p2 e18.2) fun v19 s20 =>
            some (v19, s20)
          )
noncomputable def X11_copies_b2 (p1 : Int) (p2 : Int) (t1 : Int × jq_M) : Option ((Int × jq_M) ⊕ (jq_M)) :=
  if t1.1 < 506 then
    (jq_ld t1.2 1 3174 (jq_w ((jq_w (506 * p1)) + t1.1))).bind fun v2 =>
    (jq_sa t1.2 1 3174 (jq_w ((jq_w (506 * p2)) + t1.1)) v2).bind fun s3 =>
    jq_lt (jq_w (t1.1 + 1)) fun v4 =>
    some (.inl (v4, s3))
  
  else
    some (.inr t1.2)
noncomputable def X11_copies_b41 (p1 : Int) (p2 : Int) (t6 : Int × jq_M) : Option ((Int × jq_M) ⊕ (jq_M)) :=
  if t6.1 < 13 then
    (jq_ld t6.2 2 78 (jq_w ((jq_w (13 * p1)) + t6.1))).bind fun v7 =>
    (jq_sa t6.2 2 78 (jq_w ((jq_w (13 * p2)) + t6.1)) v7).bind fun s8 =>
    jq_lt (jq_w (t6.1 + 1)) fun v9 =>
    some (.inl (v9, s8))
  
  else
    some (.inr t6.2)
noncomputable def X11_copies (p1 : Int) (p2 : Int) (σ : jq_M) : Option (jq_M) :=
  (jq_lp (X11_copies_b2 p1 p2) (0, σ)).bind (fun e5 =>
    (jq_lp (X11_copies_b41 p1 p2) (0, e5)).bind (fun e10 =>
      some e10
    )
  )
noncomputable def X11_mark (σ : jq_M) : Option (Int × jq_M) :=
  if σ 0 36 = 3 then
    jq_b2 (X11_refuse 4 σ) fun v5 s6 =>
    some (v5, s6)
  
  else
    jq_lt (jq_st σ 0 36 (jq_w ((σ 0 36) + 1))) fun s1 =>
    (X11_copies 0 (s1 0 36) s1).bind fun s2 =>
    jq_b2 (X11_gives (s2 0 36) s2) fun v3 s4 =>
    some (v3, s4)
noncomputable def X11_undo (σ : jq_M) : Option (Int × jq_M) :=
  if σ 0 36 = 0 then
    jq_b2 (X11_refuse 6 σ) fun v5 s6 =>
    some (v5, s6)
  
  else
    (X11_copies (σ 0 36) 0 σ).bind fun s1 =>
    jq_lt (jq_st s1 0 36 (jq_w ((s1 0 36) - 1))) fun s2 =>
    jq_b2 (X11_gives (s2 0 36) s2) fun v3 s4 =>
    some (v3, s4)
