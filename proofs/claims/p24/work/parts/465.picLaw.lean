def g_L_same_L593 (σ : Blk) (B : Nat → Blk) (nb : Nat) (τ : Blk) (x31 : Int) (r32 : Int) (v38 : Int) (j56 : Option (Int)) : Nat → Int → Option (Int)
  | 0, _ => none
  | n + 1, x87 =>
    Option.bind (ld τ 1 28 (v38 + 1)) fun v88 =>
    if v88 ≤ x87 then (
      j56) else (
      Option.bind (g_X4_letter σ B nb x31 x87) fun r89 =>
      Option.bind (g_L_letter τ r32 x87) fun r90 =>
      if r89 = r90 then (
        Option.bind (ck (x87 + 1)) fun v91 =>
        g_L_same_L593 σ B nb τ x31 r32 v38 j56 n v91) else (
        some 0))
def g_L_same_L492 (σ : Blk) (B : Nat → Blk) (nb : Nat) (τ : Blk) (x31 : Int) (r32 : Int) (r40 : Int) (j54 : Int → Option (Int)) : Nat → Int → Int → Option (Int)
  | 0, _, _ => none
  | n + 1, x92, x93 =>
    if r40 ≤ x93 then (
      j54 x92) else (
      Option.bind (ld τ 0 4 3) fun v94 =>
      Option.bind (g_L_find τ 2 r32 x93 2 64 v94) fun r95 =>
      Option.bind (ld τ 2 64 r95) fun v96 =>
      Option.bind (g_L_cells v96) fun r97 =>
      Option.bind (ck (x92 + r97)) fun v98 =>
      Option.bind (g_X4_piece σ B nb x31 x93 0) fun r99 =>
      Option.bind (dv (ishr v96 16) 40) fun v100 =>
      if r99 ≠ v100 then (
        some 0) else (
        Option.bind (g_X4_piece σ B nb x31 x93 1) fun r101 =>
        Option.bind (rm_ (ishr v96 16) 40) fun v102 =>
        if r101 ≠ v102 then (
          some 0) else (
          Option.bind (g_X4_piece σ B nb x31 x93 2) fun r103 =>
          if r103 = iand v96 31 then (
            Option.bind (ck (x93 + 1)) fun v104 =>
            g_L_same_L492 σ B nb τ x31 r32 r40 j54 n v98 v104) else (
            some 0))))
def g_L_same_L368 (σ : Blk) (B : Nat → Blk) (nb : Nat) (τ : Blk) (j4 : Int → Int → Int → Option (Int)) : Nat → Int → Int → Int → Int → Option (Int)
  | 0, _, _, _, _ => none
  | n + 1, x28, x29, x30, x31 =>
    if 100 ≤ x31 then (
      j4 x28 x29 x30) else (
      Option.bind (g_L_rowOf τ x31 1 28) fun r32 =>
      jp (fun (x34 : Int) (x35 : Int) (x36 : Int) => 
        Option.bind (ck (x31 + 1)) fun v37 =>
        g_L_same_L368 σ B nb τ j4 n x34 x35 x36 v37) fun j33 =>
      if 0 ≤ r32 then (
        Option.bind (ck (4 * r32)) fun v38 =>
        Option.bind (ld τ 0 4 3) fun v39 =>
        Option.bind (g_L_pieces τ r32 2 64 v39) fun r40 =>
        Option.bind (ld τ 0 4 3) fun v41 =>
        Option.bind (g_L_find τ 1 r32 0 2 64 v41) fun r42 =>
        Option.bind (ld τ 2 64 r42) fun v43 =>
        Option.bind (g_L_cells v43) fun r44 =>
        Option.bind (ld τ 1 28 (v38 + 2)) fun v45 =>
        Option.bind (ld τ 1 28 (v38 + 3)) fun v46 =>
        jp (fun (x48 : Int) => 
          Option.bind (ck (r44 + x48)) fun v49 =>
          Option.bind (ld τ 0 4 3) fun v50 =>
          Option.bind (g_L_cost τ r32 1 28 2 64 v50) fun r51 =>
          Option.bind (ck (x30 + 1)) fun v52 =>
          Option.bind (g_X4_key σ B nb x30) fun r53 =>
          if r53 = x31 then (
            jp (fun (x55 : Int) => 
              jp (
                Option.bind (ld τ 1 28 (v38 + 1)) fun v57 =>
                Option.bind (ck (x28 + v57)) fun v58 =>
                jp (fun (x60 : Int) => 
                  Option.bind (g_X4_row σ B nb x31 0) fun r61 =>
                  Option.bind (ld τ 1 28 (v38 + 1)) fun v62 =>
                  if r61 ≠ v62 then (
                    some 0) else (
                    Option.bind (g_X4_row σ B nb x31 1) fun r63 =>
                    Option.bind (ld τ 1 28 (v38 + 2)) fun v64 =>
                    Option.bind (dv v64 40) fun v65 =>
                    if r63 ≠ v65 then (
                      some 0) else (
                      Option.bind (g_X4_row σ B nb x31 2) fun r66 =>
                      Option.bind (ld τ 1 28 (v38 + 2)) fun v67 =>
                      Option.bind (rm_ v67 40) fun v68 =>
                      if r66 ≠ v68 then (
                        some 0) else (
                        Option.bind (g_X4_row σ B nb x31 3) fun r69 =>
                        Option.bind (ld τ 1 28 (v38 + 3)) fun v70 =>
                        Option.bind (dv v70 40) fun v71 =>
                        if r69 ≠ v71 then (
                          some 0) else (
                          Option.bind (g_X4_row σ B nb x31 4) fun r72 =>
                          Option.bind (ld τ 1 28 (v38 + 3)) fun v73 =>
                          Option.bind (rm_ v73 40) fun v74 =>
                          if r72 ≠ v74 then (
                            some 0) else (
                            Option.bind (g_X4_row σ B nb x31 5) fun r75 =>
                            Option.bind (ld τ 1 28 (v38 + 2)) fun v76 =>
                            Option.bind (ld τ 1 28 (v38 + 3)) fun v77 =>
                            jp (fun (x79 : Int) => 
                              if r75 ≠ x79 then (
                                some 0) else (
                                Option.bind (g_X4_row σ B nb x31 6) fun r80 =>
                                if r80 ≠ iand v43 31 then (
                                  some 0) else (
                                  Option.bind (g_X4_row σ B nb x31 7) fun r81 =>
                                  if r81 ≠ r40 then (
                                    some 0) else (
                                    Option.bind (g_X4_row σ B nb x31 8) fun r82 =>
                                    if r82 ≠ r51 then (
                                      some 0) else (
                                      Option.bind (g_X4_row σ B nb x31 9) fun r83 =>
                                      if r83 ≠ x55 then (
                                        some 0) else (
                                        Option.bind (ld τ 1 28 (v38 + 1)) fun v84 =>
                                        Option.bind (g_X4_letter σ B nb x31 v84) fun r85 =>
                                        if r85 ≠ (-1) then (
                                          some 0) else (
                                          Option.bind (g_X4_piece σ B nb x31 r40 0) fun r86 =>
                                          if r86 = (-1) then (
                                            j33 v58 x60 v52) else (
                                            some 0)))))))) fun j78 =>
                            if v76 ≠ v77 then (
                              j78 1) else (
                              j78 0))))))) fun j59 =>
                if r51 ≤ x29 then (
                  j59 x29) else (
                  j59 r51)) fun j56 =>
              g_L_same_L593 σ B nb τ x31 r32 v38 j56 fu 0) fun j54 =>
            g_L_same_L492 σ B nb τ x31 r32 r40 j54 fu v49 0) else (
            some 0)) fun j47 =>
        if v45 = v46 then (
          j47 0) else (
          j47 1)) else (
        Option.bind (g_X4_row σ B nb x31 0) fun r105 =>
        if r105 = (-1) then (
          j33 x28 x29 x30) else (
          some 0)))
def g_L_same_L41 (σ : Blk) (B : Nat → Blk) (nb : Nat) (τ : Blk) (x108 : Int) (j109 : Int → Int → Int → Int → Option (Int)) : Nat → Int → Int → Int → Int → Int → Option (Int)
  | 0, _, _, _, _, _ => none
  | n + 1, x129, x130, x131, x132, x133 =>
    Option.bind (ld τ 0 4 3) fun v134 =>
    if v134 ≤ x133 then (
      j109 x129 x130 x131 x132) else (
      Option.bind (ld τ 2 64 x133) fun v135 =>
      nm (ishr v135 16) fun v136 =>
      Option.bind (dv v136 40) fun v137 =>
      jp (fun (x139 : Int) (x140 : Int) (x141 : Int) (x142 : Int) => 
        Option.bind (ck (x133 + 1)) fun v143 =>
        g_L_same_L41 σ B nb τ x108 j109 n x139 x140 x141 x142 v143) fun j138 =>
      if v137 = x108 then (
        Option.bind (ld τ 2 64 x133) fun v144 =>
        nm (iand (ishr v144 14) 3) fun v145 =>
        Option.bind (rm_ v136 40) fun v146 =>
        jp (fun (x148 : Int) => 
          jp (fun (x150 : Int) => 
            Option.bind (ck (x130 + x150)) fun v151 =>
            jp (fun (x153 : Int) => 
              Option.bind (ck (x131 + x153)) fun v154 =>
              jp (fun (x156 : Int) => 
                Option.bind (ck (x132 + x156)) fun v157 =>
                Option.bind (rm_ v136 40) fun v158 =>
                Option.bind (g_X4_slot σ B nb x108 v158 0) fun r159 =>
                if r159 ≠ v145 then (
                  some 0) else (
                  Option.bind (rm_ v136 40) fun v160 =>
                  Option.bind (g_X4_slot σ B nb x108 v160 1) fun r161 =>
                  Option.bind (ld τ 2 64 x133) fun v162 =>
                  Option.bind (ld τ 1 28 (4 * (iand (ishr v162 11) 7))) fun v163 =>
                  if r161 ≠ v163 then (
                    some 0) else (
                    Option.bind (rm_ v136 40) fun v164 =>
                    Option.bind (g_X4_slot σ B nb x108 v164 2) fun r165 =>
                    Option.bind (ld τ 2 64 x133) fun v166 =>
                    Option.bind (g_L_cells v166) fun r167 =>
                    if r165 = r167 then (
                      j138 x148 v151 v154 v157) else (
                      some 0)))) fun j155 =>
              if v145 ≠ 3 then (
                j155 0) else (
                j155 1)) fun j152 =>
            if v145 ≠ 2 then (
              j152 0) else (
              j152 1)) fun j149 =>
          if v145 ≠ 1 then (
            j149 0) else (
            j149 1)) fun j147 =>
        if v146 < x129 then (
          j147 x129) else (
          Option.bind (rm_ v136 40) fun v168 =>
          Option.bind (ck (v168 + 1)) fun v169 =>
          j147 v169)) else (
        j138 x129 x130 x131 x132))
def g_L_same_L19 (σ : Blk) (B : Nat → Blk) (nb : Nat) (τ : Blk) (j1 : Int → Int → Option (Int)) : Nat → Int → Int → Int → Option (Int)
  | 0, _, _, _ => none
  | n + 1, x106, x107, x108 =>
    if 10 ≤ x108 then (
      j1 x106 x107) else (
      jp (fun (x110 : Int) (x111 : Int) (x112 : Int) (x113 : Int) => 
        Option.bind (ld τ 0 4 3) fun v114 =>
        Option.bind (g_L_free τ x108 2 64 v114) fun r115 =>
        jp (fun (x117 : Int) => 
          Option.bind (ck (x106 + x117)) fun v118 =>
          Option.bind (ck (x107 + r115)) fun v119 =>
          Option.bind (g_X4_page σ B nb x108 0) fun r120 =>
          if r120 ≠ r115 then (
            some 0) else (
            Option.bind (g_X4_page σ B nb x108 1) fun r121 =>
            if r121 ≠ x110 then (
              some 0) else (
              Option.bind (g_X4_page σ B nb x108 2) fun r122 =>
              if r122 ≠ x111 then (
                some 0) else (
                Option.bind (g_X4_page σ B nb x108 3) fun r123 =>
                if r123 ≠ x112 then (
                  some 0) else (
                  Option.bind (g_X4_page σ B nb x108 4) fun r124 =>
                  if r124 ≠ x113 then (
                    some 0) else (
                    Option.bind (g_X4_page σ B nb x108 5) fun r125 =>
                    Option.bind (ck (((x110 - x111) - x112) - x113)) fun v126 =>
                    if r125 ≠ v126 then (
                      some 0) else (
                      Option.bind (g_X4_slot σ B nb x108 x110 0) fun r127 =>
                      if r127 = (-1) then (
                        Option.bind (ck (x108 + 1)) fun v128 =>
                        g_L_same_L19 σ B nb τ j1 n v118 v119 v128) else (
                        some 0)))))))) fun j116 =>
        if x110 ≤ 0 then (
          j116 0) else (
          j116 1)) fun j109 =>
      g_L_same_L41 σ B nb τ x108 j109 fu 0 0 0 0 0)
def g_L_same (σ : Blk) (B : Nat → Blk) (nb : Nat) (τ : Blk) : Option (Int) :=
  jp (fun (x2 : Int) (x3 : Int) => 
    jp (fun (x5 : Int) (x6 : Int) (x7 : Int) => 
      Option.bind (g_X4_key σ B nb x7) fun r8 =>
      if r8 ≠ (-1) then (
        some 0) else (
        Option.bind (g_X4_count σ B nb 0) fun r9 =>
        Option.bind (ld τ 0 4 2) fun v10 =>
        if r9 ≠ v10 then (
          some 0) else (
          Option.bind (g_X4_count σ B nb 1) fun r11 =>
          if r11 ≠ x2 then (
            some 0) else (
            Option.bind (g_X4_count σ B nb 2) fun r12 =>
            Option.bind (ld τ 0 4 3) fun v13 =>
            Option.bind (g_L_kinds τ 3 2 64 v13) fun r14 =>
            if r12 ≠ r14 then (
              some 0) else (
              Option.bind (g_X4_count σ B nb 3) fun r15 =>
              Option.bind (ld τ 0 4 3) fun v16 =>
              Option.bind (g_L_kinds τ 2 2 64 v16) fun r17 =>
              if r15 ≠ r17 then (
                some 0) else (
                Option.bind (g_X4_count σ B nb 4) fun r18 =>
                if r18 ≠ x3 then (
                  some 0) else (
                  Option.bind (g_X4_count σ B nb 5) fun r19 =>
                  Option.bind (ld τ 0 4 3) fun v20 =>
                  Option.bind (g_L_costs τ 1 28 2 64 v20) fun r21 =>
                  if r19 ≠ r21 then (
                    some 0) else (
                    Option.bind (g_X4_count σ B nb 6) fun r22 =>
                    if r22 ≠ x5 then (
                      some 0) else (
                      Option.bind (g_X4_count σ B nb 7) fun r23 =>
                      if r23 ≠ x6 then (
                        some 0) else (
                        Option.bind (g_X4_count σ B nb 8) fun r24 =>
                        Option.bind (ld τ 0 4 0) fun v25 =>
                        if r24 ≠ v25 then (
                          some 0) else (
                          Option.bind (g_X4_count σ B nb 9) fun r26 =>
                          Option.bind (ld τ 0 4 1) fun v27 =>
                          if r26 ≠ v27 then (
                            some 0) else (
                            some 1)))))))))))) fun j4 =>
    g_L_same_L368 σ B nb τ j4 fu 0 ((-6)) 0 0) fun j1 =>
  g_L_same_L19 σ B nb τ j1 fu 0 0 0
def g_L_would_L265 (r9 : Int) (j10 : Int → Blk → (Nat → Blk) → Nat → Blk → Option (Int × Dp)) : Nat → Int → Blk → (Nat → Blk) → Nat → Blk → Option (Int × Dp)
  | 0, _, _, _, _, _ => none
  | n + 1, x26, σ27, B28, N29, τ30 =>
    if x26 < 0 then (
      j10 x26 σ27 B28 N29 τ30) else (
      Option.bind (g_L_copy τ30 0 4 1 28 2 64 3 4 4 28 5 64) fun τ31 =>
      jp (fun (x33 : Int) => 
        jp (fun (x35 : Int) => 
          bd2 (g_L_write τ31 x33 x26 x35 3 4 4 28 5 64) fun r37 τ36 =>
          if r37 = 0 then (
            Option.bind (ck (x26 + (-1))) fun v38 =>
            g_L_would_L265 r9 j10 n v38 σ27 B28 N29 τ36) else (
            j10 x26 σ27 B28 N29 τ36)) fun j34 =>
        if 0 ≤ r9 then (
          j34 0) else (
          j34 1)) fun j32 =>
      if 0 ≤ r9 then (
        j32 r9) else (
        j32 6))
def g_L_would_L90 (τ48 : Blk) (j64 : Int → Option (Int × Dp)) : Nat → Int → Int → Option (Int × Dp)
  | 0, _, _ => none
  | n + 1, x84, x85 =>
    if 10 ≤ x85 then (
      j64 x84) else (
      Option.bind (ld τ48 3 4 3) fun v86 =>
      Option.bind (g_L_free τ48 x85 5 64 v86) fun r87 =>
      jp (fun (x89 : Int) => 
        Option.bind (ck (x84 + x89)) fun v90 =>
        Option.bind (ck (x85 + 1)) fun v91 =>
        g_L_would_L90 τ48 j64 n v90 v91) fun j88 =>
      if 40 ≤ r87 then (
        j88 0) else (
        j88 1))
def g_L_would_L19 (r1 : Int) (j2 : Int → Blk → (Nat → Blk) → Nat → Blk → Option (Int × Dp)) : Nat → Int → Int → Int → Blk → (Nat → Blk) → Nat → Blk → Option (Int × Dp)
  | 0, _, _, _, _, _, _, _ => none
  | n + 1, x39, x40, x41, σ42, B43, N44, τ45 =>
    if x41 < 0 then (
      j2 x39 σ42 B43 N44 τ45) else (
      Option.bind (g_L_copy τ45 0 4 1 28 2 64 3 4 4 28 5 64) fun τ46 =>
      Option.bind (sw τ46 3 4 0 x41) fun τ47 =>
      bd2 (g_L_pack τ47 3 4 4 28 5 64) fun r49 τ48 =>
      jp (fun (x51 : Int) => 
        jp (fun (σ53 : Blk) (B54 : Nat → Blk) (N55 : Nat) (τ56 : Blk) => 
          jp (fun (x58 : Int) (x59 : Int) => 
            Option.bind (ck (x41 + (-1))) fun v60 =>
            g_L_would_L19 r1 j2 n x58 x59 v60 σ53 B54 N55 τ56) fun j57 =>
          if r49 = 0 then (
            j57 x39 x40) else (
            Option.bind (rm_ x41 2) fun v61 =>
            if v61 = 1 then (
              j57 x39 x40) else (
              Option.bind (ld τ56 0 4 2) fun v62 =>
              if v62 = 0 then (
                j57 x39 x40) else (
                jp (
                  j57 x41 x51) fun j63 =>
                if x39 < 0 then (
                  j63) else (
                  if x51 ≤ x40 then (
                    j63) else (
                    j57 x39 x40)))))) fun j52 =>
        if x41 ≠ r1 then (
          j52 σ42 B43 N44 τ48) else (
          jp (fun (x65 : Int) => 
            bd4 (g_X4_ifPacked σ42 B43 N44 x41 0) fun r66 σ67 B68 N69 =>
            if r66 ≠ x51 then (
              some (0, σ67, B68, N69, τ48)) else (
              bd4 (g_X4_ifPacked σ67 B68 N69 x41 1) fun r70 σ71 B72 N73 =>
              jp (fun (x75 : Int) => 
                if r70 ≠ x75 then (
                  some (0, σ71, B72, N73, τ48)) else (
                  bd4 (g_X4_ifPacked σ71 B72 N73 x41 2) fun r76 σ77 B78 N79 =>
                  jp (fun (x81 : Int) => 
                    if r76 = x81 then (
                      j52 σ77 B78 N79 τ48) else (
                      some (0, σ77, B78, N79, τ48))) fun j80 =>
                  if r49 = 0 then (
                    j80 x51) else (
                    Option.bind (ld τ48 3 4 3) fun v82 =>
                    Option.bind (g_L_kinds τ48 2 5 64 v82) fun r83 =>
                    j80 r83))) fun j74 =>
              if r49 = 0 then (
                j74 x51) else (
                j74 x65))) fun j64 =>
          g_L_would_L90 τ48 j64 fu 0 0)) fun j50 =>
      if r49 = 0 then (
        j50 ((-5))) else (
        Option.bind (ld τ48 3 4 3) fun v92 =>
        Option.bind (g_L_costs τ48 4 28 5 64 v92) fun r93 =>
        j50 r93))
def g_L_would (σ : Blk) (B : Nat → Blk) (nb : Nat) (τ : Blk) (a1 : Int) : Option (Int × Dp) :=
  Option.bind (g_L_low a1 17) fun r1 =>
  jp (fun (x3 : Int) (σ4 : Blk) (B5 : Nat → Blk) (N6 : Nat) (τ7 : Blk) => 
    Option.bind (g_L_low (ishr a1 5) 100) fun r8 =>
    Option.bind (g_L_rowOf τ7 r8 1 28) fun r9 =>
    jp (fun (x11 : Int) (σ12 : Blk) (B13 : Nat → Blk) (N14 : Nat) (τ15 : Blk) => 
      bd4 (g_X4_bestHead σ12 B13 N14) fun r16 σ17 B18 N19 =>
      if r16 ≠ x3 then (
        some (0, σ17, B18, N19, τ15)) else (
        bd4 (g_X4_most σ17 B18 N19 r8) fun r20 σ21 B22 N23 =>
        jp (fun (x25 : Int) => 
          if r20 ≠ x25 then (
            some (0, σ21, B22, N23, τ15)) else (
            some (1, σ21, B22, N23, τ15))) fun j24 =>
        if 0 ≤ x11 then (
          j24 x11) else (
          j24 ((-6))))) fun j10 =>
    g_L_would_L265 r9 j10 fu 40 σ4 B5 N6 τ7) fun j2 =>
  g_L_would_L19 r1 j2 fu ((-6)) 0 16 σ B nb τ
def g_L_law_L798 (τ79 : Blk) (j81 : Int → Option (Int)) : Nat → Int → Int → Option (Int)
  | 0, _, _ => none
  | n + 1, x87, x88 =>
    if 10 ≤ x88 then (
      j81 x87) else (
      Option.bind (ld τ79 0 4 3) fun v89 =>
      Option.bind (g_L_free τ79 x88 2 64 v89) fun r90 =>
      jp (fun (x92 : Int) => 
        Option.bind (ck (x87 + x92)) fun v93 =>
        Option.bind (ck (x88 + 1)) fun v94 =>
        g_L_law_L798 τ79 j81 n v93 v94) fun j91 =>
      if 40 ≤ r90 then (
        j91 0) else (
        j91 1))
def g_L_law_L653 (r21 : Int) (j98 : Int → Blk → (Nat → Blk) → Nat → Blk → Option (Int)) : Nat → Int → Int → Blk → (Nat → Blk) → Nat → Blk → Option (Int)
  | 0, _, _, _, _, _, _ => none
  | n + 1, x121, x122, σ123, B124, N125, τ126 =>
    if x122 < 0 then (
      j98 x121 σ123 B124 N125 τ126) else (
      if r21 < 0 then (
        j98 x121 σ123 B124 N125 τ126) else (
        Option.bind (ld τ126 2 64 x122) fun v127 =>
        jp (fun (x129 : Int) (σ130 : Blk) (B131 : Nat → Blk) (N132 : Nat) (τ133 : Blk) => 
          Option.bind (ck (x122 + (-1))) fun v134 =>
          g_L_law_L653 r21 j98 n x129 v134 σ130 B131 N132 τ133) fun j128 =>
        if iand (ishr v127 11) 7 = r21 then (
          Option.bind (ld τ126 2 64 x122) fun v135 =>
          Option.bind (g_L_cells v135) fun r136 =>
          Option.bind (ck (x121 + r136)) fun v137 =>
          Option.bind (g_L_drop τ126 x122 2 64 0 4) fun τ138 =>
          j128 v137 σ123 B124 N125 τ138) else (
          j128 x121 σ123 B124 N125 τ126)))
def g_L_law_L370 (v16 : Int) (r142 : Int) (x149 : Int) (j166 : Blk → (Nat → Blk) → Nat → Blk → Option (Int)) : Nat → Int → Blk → (Nat → Blk) → Nat → Blk → Option (Int)
  | 0, _, _, _, _, _ => none
  | n + 1, x183, σ184, B185, N186, τ187 =>
    if r142 ≤ x183 then (
      j166 σ184 B185 N186 τ187) else (
      Option.bind (rm_ x183 23) fun v188 =>
      Option.bind (g_L_low (ishr v16 (v188 + 1)) 26) fun r189 =>
      Option.bind (dv x183 12) fun v190 =>
      Option.bind (ldL τ187 6 12 ((2 * x149) + v190)) fun l191 =>
      Option.bind (rm_ x183 12) fun v192 =>
      Option.bind (swL τ187 6 12 ((2 * x149) + v190) (l191 ||| (lshl (i2l r189) (5 * v192)))) fun τ193 =>
      bd4 (g_X4_put σ184 B185 N186 (i2l (97 + r189))) fun r194 σ195 B196 N197 =>
      if 1 ≤ r194 then (
        Option.bind (ck (x183 + 1)) fun v198 =>
        g_L_law_L370 v16 r142 x149 j166 n v198 σ195 B196 N197 τ193) else (
        some 0))
def g_L_law_L201 (τ12 : Blk) (x144 : Int) (j145 : Int → Option (Int)) : Nat → Int → Option (Int)
  | 0, _ => none
  | n + 1, x213 =>
    if x144 = 0 then (
      j145 x213) else (
      if 6 ≤ x213 then (
        j145 x213) else (
        Option.bind (ld τ12 1 28 ((4 * x213) + 1)) fun v214 =>
        if v214 < 0 then (
          j145 x213) else (
          Option.bind (ck (x213 + 1)) fun v215 =>
          g_L_law_L201 τ12 x144 j145 n v215)))
def g_L_law_L84 (xs : Nat → Int32) (Ls : Nat) : Nat → Int → Blk → (Nat → Blk) → Nat → Blk → Option (Int)
  | 0, _, _, _, _, _ => none
  | n + 1, x8, σ9, B10, N11, τ12 =>
    if 22 ≤ x8 then (
      some 1) else (
      Option.bind (ck (2 * x8)) fun v13 =>
      Option.bind (cellP xs Ls v13) fun v14 =>
      Option.bind (ck ((2 * x8) + 1)) fun v15 =>
      Option.bind (cellP xs Ls v15) fun v16 =>
      jp (fun (x18 : Int) => 
        Option.bind (g_L_low (ishr v14 4) 8) fun r19 =>
        Option.bind (ck (r19 * 13)) fun v20 =>
        Option.bind (g_L_rowOf τ12 v20 1 28) fun r21 =>
        jp (fun (σ23 : Blk) (B24 : Nat → Blk) (N25 : Nat) (τ26 : Blk) => 
          Option.bind (ck (x8 + 1)) fun v27 =>
          g_L_law_L84 xs Ls n v27 σ23 B24 N25 τ26) fun j22 =>
        jp (fun (σ29 : Blk) (B30 : Nat → Blk) (N31 : Nat) (τ32 : Blk) => 
          Option.bind (g_L_same σ29 B30 N31 τ32) fun r33 =>
          if r33 = 0 then (
            some 0) else (
            Option.bind (g_L_low (ishr v16 12) 3) fun r34 =>
            if r34 ≠ 0 then (
              j22 σ29 B30 N31 τ32) else (
              bd5 (g_L_would σ29 B30 N31 τ32 (ishr v16 3)) fun r35 σ36 B37 N38 τ39 =>
              if r35 ≠ 0 then (
                j22 σ36 B37 N38 τ39) else (
                some 0)))) fun j28 =>
        if 5 ≤ x18 then (
          jp (
            Option.bind (g_L_low v16 26) fun r41 =>
            jp (fun (x43 : Int) => 
              if x43 ≠ 24 then (
                jp (fun (σ45 : Blk) (B46 : Nat → Blk) (N47 : Nat) (τ48 : Blk) => 
                  bd4 (g_X4_append σ45 B46 N47 v20 r41) fun r49 σ50 B51 N52 =>
                  jp (fun (x54 : Int) => 
                    if r49 = x54 then (
                      j28 σ50 B51 N52 τ48) else (
                      some 0)) fun j53 =>
                  if 0 ≤ r21 then (
                    Option.bind (ck (x43 + 1)) fun v55 =>
                    j53 v55) else (
                    j53 ((-1)))) fun j44 =>
                if r21 < 0 then (
                  j44 σ9 B10 N11 τ12) else (
                  Option.bind (dv x43 12) fun v56 =>
                  Option.bind (ldL τ12 6 12 ((2 * r21) + v56)) fun l57 =>
                  Option.bind (rm_ x43 12) fun v58 =>
                  Option.bind (swL τ12 6 12 ((2 * r21) + v56) (l57 ||| (lshl (i2l r41) (5 * v58)))) fun τ59 =>
                  Option.bind (ck (x43 + 1)) fun v60 =>
                  bd2 (g_L_write τ59 r21 v60 0 0 4 1 28 2 64) fun r62 τ61 =>
                  if r62 ≠ 0 then (
                    j44 σ9 B10 N11 τ61) else (
                    some 0))) else (
                j22 σ9 B10 N11 τ12)) fun j42 =>
            if 0 ≤ r21 then (
              Option.bind (ld τ12 1 28 ((4 * r21) + 1)) fun v63 =>
              j42 v63) else (
              j42 0)) fun j40 =>
          if x18 = 5 then (
            j40) else (
            if x18 ≠ 6 then (
              jp (
                jp (
                  Option.bind (g_L_low v16 2) fun r66 =>
                  jp (fun (x68 : Int) => 
                    bd4 (g_X4_set σ9 B10 N11 r66 x68) fun r69 σ70 B71 N72 =>
                    Option.bind (ld τ12 0 4 r66) fun v73 =>
                    if r69 = v73 then (
                      Option.bind (sw τ12 0 4 r66 x68) fun τ74 =>
                      j28 σ70 B71 N72 τ74) else (
                      some 0)) fun j67 =>
                  if r66 ≠ 0 then (
                    Option.bind (g_L_low (ishr v16 2) 9) fun r75 =>
                    Option.bind (ck (4 + r75)) fun v76 =>
                    j67 v76) else (
                    Option.bind (g_L_low (ishr v16 2) 17) fun r77 =>
                    j67 r77)) fun j65 =>
                if x18 ≠ 8 then (
                  j65) else (
                  Option.bind (g_L_low v16 2) fun r78 =>
                  if r78 ≠ 0 then (
                    j65) else (
                    bd2 (g_L_pack τ12 0 4 1 28 2 64) fun r80 τ79 =>
                    if r80 ≠ 0 then (
                      jp (fun (x82 : Int) => 
                        bd4 (g_X4_pack σ9 B10 N11) fun r83 σ84 B85 N86 =>
                        if r83 = x82 then (
                          j28 σ84 B85 N86 τ79) else (
                          some 0)) fun j81 =>
                      g_L_law_L798 τ79 j81 fu 0 0) else (
                      some 0)))) fun j64 =>
              if x18 ≠ 7 then (
                j64) else (
                Option.bind (g_L_low v16 2) fun r95 =>
                if r95 ≠ 0 then (
                  j64) else (
                  Option.bind (ld τ12 0 4 3) fun v96 =>
                  Option.bind (ck (v96 - 1)) fun v97 =>
                  jp (fun (x99 : Int) (σ100 : Blk) (B101 : Nat → Blk) (N102 : Nat) (τ103 : Blk) => 
                    bd4 (g_X4_delete σ100 B101 N102 v20) fun r104 σ105 B106 N107 =>
                    jp (fun (x109 : Int) => 
                      if r104 = x109 then (
                        jp (fun (σ111 : Blk) (B112 : Nat → Blk) (N113 : Nat) (τ114 : Blk) => 
                          Option.bind (ld τ114 0 4 2) fun v115 =>
                          jp (fun (x117 : Int) => 
                            Option.bind (ck (v115 - x117)) fun v118 =>
                            Option.bind (sw τ114 0 4 2 v118) fun τ119 =>
                            j28 σ111 B112 N113 τ119) fun j116 =>
                          if r21 < 0 then (
                            j116 0) else (
                            j116 1)) fun j110 =>
                        if r21 < 0 then (
                          j110 σ105 B106 N107 τ103) else (
                          Option.bind (sw τ103 1 28 ((4 * r21) + 1) ((-1))) fun τ120 =>
                          j110 σ105 B106 N107 τ120)) else (
                        some 0)) fun j108 =>
                    if 0 ≤ r21 then (
                      j108 x99) else (
                      j108 ((-1)))) fun j98 =>
                  g_L_law_L653 r21 j98 fu 0 v97 σ9 B10 N11 τ12))) else (
              j40))) else (
          Option.bind (g_L_low (ishr v14 8) 3) fun r139 =>
          jp (fun (x141 : Int) => 
            Option.bind (g_L_low v16 x141) fun r142 =>
            jp (fun (x144 : Int) => 
              jp (fun (x146 : Int) => 
                jp (
                  jp (fun (x149 : Int) => 
                    bd4 (g_X4_wipe σ9 B10 N11) fun r150 σ151 B152 N153 =>
                    jp (fun (x155 : Int) (σ156 : Blk) (B157 : Nat → Blk) (N158 : Nat) (τ159 : Blk) => 
                      if x155 = 0 then (
                        some 0) else (
                        bd4 (g_X4_put σ156 B157 N158 ((61 : Int64))) fun r160 σ161 B162 N163 =>
                        if 1 ≤ r160 then (
                          Option.bind (swL τ159 6 12 (2 * x149) ((0 : Int64))) fun τ164 =>
                          Option.bind (swL τ164 6 12 ((2 * x149) + 1) ((0 : Int64))) fun τ165 =>
                          jp (fun (σ167 : Blk) (B168 : Nat → Blk) (N169 : Nat) (τ170 : Blk) => 
                            Option.bind (sw τ170 1 28 (4 * x149) v20) fun τ171 =>
                            Option.bind (ld τ171 0 4 2) fun v172 =>
                            jp (fun (x174 : Int) => 
                              Option.bind (ck (v172 + x174)) fun v175 =>
                              Option.bind (sw τ171 0 4 2 v175) fun τ176 =>
                              bd2 (g_L_write τ176 x149 r142 x144 0 4 1 28 2 64) fun r178 τ177 =>
                              if r178 = 0 then (
                                some 0) else (
                                bd4 (g_X4_write σ167 B168 N169) fun r179 σ180 B181 N182 =>
                                if r179 = 1 then (
                                  j28 σ180 B181 N182 τ177) else (
                                  some 0))) fun j173 =>
                            if x144 = 0 then (
                              j173 0) else (
                              j173 1)) fun j166 =>
                          g_L_law_L370 v16 r142 x149 j166 fu 0 σ161 B162 N163 τ165) else (
                          some 0))) fun j154 =>
                    if v20 ≤ 9 then (
                      bd4 (g_X4_put σ151 B152 N153 (i2l (48 + v20))) fun r199 σ200 B201 N202 =>
                      if r199 ≤ 0 then (
                        j154 0 σ200 B201 N202 τ12) else (
                        j154 1 σ200 B201 N202 τ12)) else (
                      Option.bind (dv v20 10) fun v203 =>
                      bd4 (g_X4_put σ151 B152 N153 (i2l (48 + v203))) fun r204 σ205 B206 N207 =>
                      if r204 ≤ 0 then (
                        j154 0 σ205 B206 N207 τ12) else (
                        Option.bind (rm_ v20 10) fun v208 =>
                        bd4 (g_X4_put σ205 B206 N207 (i2l (48 + v208))) fun r209 σ210 B211 N212 =>
                        if r209 ≤ 0 then (
                          j154 0 σ210 B211 N212 τ12) else (
                          j154 1 σ210 B211 N212 τ12)))) fun j148 =>
                  if x144 = 0 then (
                    j148 r21) else (
                    j148 x146)) fun j147 =>
                if x144 = 0 then (
                  j147) else (
                  if x146 ≠ 6 then (
                    j147) else (
                    j22 σ9 B10 N11 τ12))) fun j145 =>
              g_L_law_L201 τ12 x144 j145 fu 0) fun j143 =>
            if 0 ≤ r21 then (
              j143 0) else (
              j143 1)) fun j140 =>
          if r139 ≠ 0 then (
            j140 14) else (
            j140 25))) fun j17 =>
      if 5 ≤ x8 then (
        Option.bind (g_L_low v14 10) fun r216 =>
        j17 r216) else (
        j17 0))
def g_L_law_L59 (j3 : Blk → (Nat → Blk) → Nat → Blk → Option (Int)) : Nat → Int → Blk → (Nat → Blk) → Nat → Blk → Option (Int)
  | 0, _, _, _, _, _ => none
  | n + 1, x217, σ218, B219, N220, τ221 =>
    if 7 ≤ x217 then (
      j3 σ218 B219 N220 τ221) else (
      Option.bind (sw τ221 1 28 ((4 * x217) + 1) ((-1))) fun τ222 =>
      Option.bind (ck (x217 + 1)) fun v223 =>
      g_L_law_L59 j3 n v223 σ218 B219 N220 τ222)
def g_L_law (xs : Nat → Int32) (Ls : Nat) (σ : Blk) (B : Nat → Blk) (nb : Nat) (τ : Blk) : Option (Int) :=
  Option.bind (sw τ 0 4 0 6) fun τ1 =>
  Option.bind (sw τ1 0 4 1 8) fun τ2 =>
  jp (fun (σ4 : Blk) (B5 : Nat → Blk) (N6 : Nat) (τ7 : Blk) => 
    g_L_law_L84 xs Ls 30 0 σ4 B5 N6 τ7) fun j3 =>
  g_L_law_L59 j3 fu 0 σ B nb τ2
