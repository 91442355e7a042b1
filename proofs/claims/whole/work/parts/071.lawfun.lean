def fL_law_B2594 (N Ls : Nat) (xs : Nat → Int32) (again23 : Int32 → zMem → zRES) (v4 : Int32) (M : zMem) : zRES :=
  again23 (v4 + 5) M
def fL_law_B2538 (N Ls : Nat) (xs : Nat → Int32) (again23 : Int32 → zMem → zRES) (v4 : Int32) (M : zMem) : zRES :=
  if zin (v4 + 1) Ls = true then
  zbl (fL_why N (xs (v4 + 1).toNatClampNeg) M) fun r2 M3 =>
  if zin (v4 + 1) Ls = true then
  zbl (fX8_why N (xs (v4 + 1).toNatClampNeg) M3) fun r6 M7 =>
  zbl (fX8_thrown N M7) fun r8 M9 =>
  if r8 = r2 then
    if r2 = 0 then
      if zin (0 : Int32) 1 = true then
      if (lg_cmp (M9.2 87 (0 : Int32).toNatClampNeg) r6.toInt64) = 0 then
        fL_law_B2594 N Ls xs again23 v4 M9
      else
        none
      else none
    else
      fL_law_B2594 N Ls xs again23 v4 M9
  else
    none
  else none
  else none
def fL_law_B2482 (N Ls : Nat) (xs : Nat → Int32) (again23 : Int32 → zMem → zRES) (v4 : Int32) (M : zMem) : zRES :=
  if zin (v4 + 1) Ls = true then
  zbl (fL_calledBack N (xs (v4 + 1).toNatClampNeg) M) fun r15 M16 =>
  if zin (v4 + 1) Ls = true then
  zbl (fX8_calledBack N (xs (v4 + 1).toNatClampNeg) M16) fun r19 M20 =>
  zbl (fX8_thrown N M20) fun r21 M22 =>
  if r21 = r15 then
    if r15 = 0 then
      if zin (0 : Int32) 1 = true then
      if (lg_cmp (M22.2 87 (0 : Int32).toNatClampNeg) r19.toInt64) = 0 then
        fL_law_B2594 N Ls xs again23 v4 M22
      else
        none
      else none
    else
      fL_law_B2594 N Ls xs again23 v4 M22
  else
    none
  else none
  else none
def fL_law_B2426 (N Ls : Nat) (xs : Nat → Int32) (again23 : Int32 → zMem → zRES) (v4 : Int32) (M : zMem) : zRES :=
  if zin (v4 + 1) Ls = true then
  zbl (fL_recallOf N (xs (v4 + 1).toNatClampNeg) M) fun r28 M29 =>
  if zin (v4 + 1) Ls = true then
  zbl (fX8_recallOf N (xs (v4 + 1).toNatClampNeg) M29) fun r32 M33 =>
  zbl (fX8_thrown N M33) fun r34 M35 =>
  if r34 = r28 then
    if r28 = 0 then
      if zin (0 : Int32) 1 = true then
      if (lg_cmp (M35.2 87 (0 : Int32).toNatClampNeg) r32.toInt64) = 0 then
        fL_law_B2594 N Ls xs again23 v4 M35
      else
        none
      else none
    else
      fL_law_B2594 N Ls xs again23 v4 M35
  else
    none
  else none
  else none
def fL_law_B2413 (N Ls : Nat) (xs : Nat → Int32) (again23 : Int32 → zMem → zRES) (v4 : Int32) (M : zMem) : zRES :=
  zbl (fX7_recalls N M) fun r40 M41 =>
  zbl (fX8_recalls N M41) fun r42 M43 =>
  if r40 = r42 then
    fL_law_B2594 N Ls xs again23 v4 M43
  else
    none
def fL_law_B2345 (N Ls : Nat) (xs : Nat → Int32) (again23 : Int32 → zMem → zRES) (v4 : Int32) (M : zMem) : zRES :=
  if zin (v4 + 1) Ls = true then
  if zin (v4 + 2) Ls = true then
  zbl (fL_tracedAt N (xs (v4 + 1).toNatClampNeg) (xs (v4 + 2).toNatClampNeg) M) fun r47 M48 =>
  if zin (v4 + 1) Ls = true then
  if zin (v4 + 2) Ls = true then
  zbl (fX8_tracedAt N (xs (v4 + 1).toNatClampNeg) (xs (v4 + 2).toNatClampNeg) M48) fun r52 M53 =>
  zbl (fX8_thrown N M53) fun r54 M55 =>
  if r54 = r47 then
    if r47 = 0 then
      if zin (0 : Int32) 1 = true then
      if (lg_cmp (M55.2 87 (0 : Int32).toNatClampNeg) r52.toInt64) = 0 then
        fL_law_B2594 N Ls xs again23 v4 M55
      else
        none
      else none
    else
      fL_law_B2594 N Ls xs again23 v4 M55
  else
    none
  else none
  else none
  else none
  else none
def fL_law_B2289 (N Ls : Nat) (xs : Nat → Int32) (again23 : Int32 → zMem → zRES) (v4 : Int32) (M : zMem) : zRES :=
  if zin (v4 + 1) Ls = true then
  zbl (fL_traced N (xs (v4 + 1).toNatClampNeg) M) fun r61 M62 =>
  if zin (v4 + 1) Ls = true then
  zbl (fX8_traced N (xs (v4 + 1).toNatClampNeg) M62) fun r65 M66 =>
  zbl (fX8_thrown N M66) fun r67 M68 =>
  if r67 = r61 then
    if r61 = 0 then
      if zin (0 : Int32) 1 = true then
      if (lg_cmp (M68.2 87 (0 : Int32).toNatClampNeg) r65.toInt64) = 0 then
        fL_law_B2594 N Ls xs again23 v4 M68
      else
        none
      else none
    else
      fL_law_B2594 N Ls xs again23 v4 M68
  else
    none
  else none
  else none
def fL_law_B2276 (N Ls : Nat) (xs : Nat → Int32) (again23 : Int32 → zMem → zRES) (v4 : Int32) (M : zMem) : zRES :=
  zbl (fX7_onSale N M) fun r73 M74 =>
  zbl (fX8_onSale N M74) fun r75 M76 =>
  if r73 = r75 then
    fL_law_B2594 N Ls xs again23 v4 M76
  else
    none
def fL_law_B2208 (N Ls : Nat) (xs : Nat → Int32) (again23 : Int32 → zMem → zRES) (v4 : Int32) (M : zMem) : zRES :=
  if zin (v4 + 1) Ls = true then
  if zin (v4 + 2) Ls = true then
  zbl (fL_sell N (xs (v4 + 1).toNatClampNeg) (xs (v4 + 2).toNatClampNeg) M) fun r80 M81 =>
  if zin (v4 + 1) Ls = true then
  if zin (v4 + 2) Ls = true then
  zbl (fX8_sell N (xs (v4 + 1).toNatClampNeg) (xs (v4 + 2).toNatClampNeg) M81) fun r85 M86 =>
  zbl (fX8_thrown N M86) fun r87 M88 =>
  if r87 = r80 then
    if r80 = 0 then
      if zin (0 : Int32) 1 = true then
      if (lg_cmp (M88.2 87 (0 : Int32).toNatClampNeg) r85.toInt64) = 0 then
        fL_law_B2594 N Ls xs again23 v4 M88
      else
        none
      else none
    else
      fL_law_B2594 N Ls xs again23 v4 M88
  else
    none
  else none
  else none
  else none
  else none
def fL_law_B2152 (N Ls : Nat) (xs : Nat → Int32) (again23 : Int32 → zMem → zRES) (v4 : Int32) (M : zMem) : zRES :=
  if zin (v4 + 1) Ls = true then
  zbl (fL_barredAnew N (xs (v4 + 1).toNatClampNeg) M) fun r94 M95 =>
  if zin (v4 + 1) Ls = true then
  zbl (fX8_barredAnew N (xs (v4 + 1).toNatClampNeg) M95) fun r98 M99 =>
  zbl (fX8_thrown N M99) fun r100 M101 =>
  if r100 = r94 then
    if r94 = 0 then
      if zin (0 : Int32) 1 = true then
      if (lg_cmp (M101.2 87 (0 : Int32).toNatClampNeg) r98.toInt64) = 0 then
        fL_law_B2594 N Ls xs again23 v4 M101
      else
        none
      else none
    else
      fL_law_B2594 N Ls xs again23 v4 M101
  else
    none
  else none
  else none
def fL_law_B2096 (N Ls : Nat) (xs : Nat → Int32) (again23 : Int32 → zMem → zRES) (v4 : Int32) (M : zMem) : zRES :=
  if zin (v4 + 1) Ls = true then
  zbl (fL_barred N (xs (v4 + 1).toNatClampNeg) M) fun r107 M108 =>
  if zin (v4 + 1) Ls = true then
  zbl (fX8_barred N (xs (v4 + 1).toNatClampNeg) M108) fun r111 M112 =>
  zbl (fX8_thrown N M112) fun r113 M114 =>
  if r113 = r107 then
    if r107 = 0 then
      if zin (0 : Int32) 1 = true then
      if (lg_cmp (M114.2 87 (0 : Int32).toNatClampNeg) r111.toInt64) = 0 then
        fL_law_B2594 N Ls xs again23 v4 M114
      else
        none
      else none
    else
      fL_law_B2594 N Ls xs again23 v4 M114
  else
    none
  else none
  else none
def fL_law_B2040 (N Ls : Nat) (xs : Nat → Int32) (again23 : Int32 → zMem → zRES) (v4 : Int32) (M : zMem) : zRES :=
  if zin (v4 + 1) Ls = true then
  zbl (fL_left N (xs (v4 + 1).toNatClampNeg) M) fun r120 M121 =>
  if zin (v4 + 1) Ls = true then
  zbl (fX8_left N (xs (v4 + 1).toNatClampNeg) M121) fun r124 M125 =>
  zbl (fX8_thrown N M125) fun r126 M127 =>
  if r126 = r120 then
    if r120 = 0 then
      if zin (0 : Int32) 1 = true then
      if (lg_cmp (M127.2 87 (0 : Int32).toNatClampNeg) r124.toInt64) = 0 then
        fL_law_B2594 N Ls xs again23 v4 M127
      else
        none
      else none
    else
      fL_law_B2594 N Ls xs again23 v4 M127
  else
    none
  else none
  else none
def fL_law_B1984 (N Ls : Nat) (xs : Nat → Int32) (again23 : Int32 → zMem → zRES) (v4 : Int32) (M : zMem) : zRES :=
  if zin (v4 + 1) Ls = true then
  zbl (fL_lotsOf N (xs (v4 + 1).toNatClampNeg) M) fun r133 M134 =>
  if zin (v4 + 1) Ls = true then
  zbl (fX8_lotsOf N (xs (v4 + 1).toNatClampNeg) M134) fun r137 M138 =>
  zbl (fX8_thrown N M138) fun r139 M140 =>
  if r139 = r133 then
    if r133 = 0 then
      if zin (0 : Int32) 1 = true then
      if (lg_cmp (M140.2 87 (0 : Int32).toNatClampNeg) r137.toInt64) = 0 then
        fL_law_B2594 N Ls xs again23 v4 M140
      else
        none
      else none
    else
      fL_law_B2594 N Ls xs again23 v4 M140
  else
    none
  else none
  else none
def fL_law_B1928 (N Ls : Nat) (xs : Nat → Int32) (again23 : Int32 → zMem → zRES) (v4 : Int32) (M : zMem) : zRES :=
  if zin (v4 + 1) Ls = true then
  zbl (fL_versionOf N (xs (v4 + 1).toNatClampNeg) M) fun r146 M147 =>
  if zin (v4 + 1) Ls = true then
  zbl (fX8_versionOf N (xs (v4 + 1).toNatClampNeg) M147) fun r150 M151 =>
  zbl (fX8_thrown N M151) fun r152 M153 =>
  if r152 = r146 then
    if r146 = 0 then
      if zin (0 : Int32) 1 = true then
      if (lg_cmp (M153.2 87 (0 : Int32).toNatClampNeg) r150.toInt64) = 0 then
        fL_law_B2594 N Ls xs again23 v4 M153
      else
        none
      else none
    else
      fL_law_B2594 N Ls xs again23 v4 M153
  else
    none
  else none
  else none
def fL_law_B1915 (N Ls : Nat) (xs : Nat → Int32) (again23 : Int32 → zMem → zRES) (v4 : Int32) (M : zMem) : zRES :=
  zbl (fX7_batches N M) fun r158 M159 =>
  zbl (fX8_batches N M159) fun r160 M161 =>
  if r158 = r160 then
    fL_law_B2594 N Ls xs again23 v4 M161
  else
    none
def fL_law_B1859 (N Ls : Nat) (xs : Nat → Int32) (again23 : Int32 → zMem → zRES) (v4 : Int32) (M : zMem) : zRES :=
  if zin (v4 + 1) Ls = true then
  zbl (fL_missed N (xs (v4 + 1).toNatClampNeg) M) fun r164 M165 =>
  if zin (v4 + 1) Ls = true then
  zbl (fX8_missed N (xs (v4 + 1).toNatClampNeg) M165) fun r168 M169 =>
  zbl (fX8_thrown N M169) fun r170 M171 =>
  if r170 = r164 then
    if r164 = 0 then
      if zin (0 : Int32) 1 = true then
      if (lg_cmp (M171.2 87 (0 : Int32).toNatClampNeg) r168.toInt64) = 0 then
        fL_law_B2594 N Ls xs again23 v4 M171
      else
        none
      else none
    else
      fL_law_B2594 N Ls xs again23 v4 M171
  else
    none
  else none
  else none
def fL_law_B1846 (N Ls : Nat) (xs : Nat → Int32) (again23 : Int32 → zMem → zRES) (v4 : Int32) (M : zMem) : zRES :=
  zbl (fX7_time N M) fun r176 M177 =>
  zbl (fX8_time N M177) fun r178 M179 =>
  if r176 = r178 then
    fL_law_B2594 N Ls xs again23 v4 M179
  else
    none
def fL_law_B1790 (N Ls : Nat) (xs : Nat → Int32) (again23 : Int32 → zMem → zRES) (v4 : Int32) (M : zMem) : zRES :=
  if zin (v4 + 1) Ls = true then
  zbl (fL_pass N (xs (v4 + 1).toNatClampNeg) M) fun r182 M183 =>
  if zin (v4 + 1) Ls = true then
  zbl (fX8_pass N (xs (v4 + 1).toNatClampNeg) M183) fun r186 M187 =>
  zbl (fX8_thrown N M187) fun r188 M189 =>
  if r188 = r182 then
    if r182 = 0 then
      if zin (0 : Int32) 1 = true then
      if (lg_cmp (M189.2 87 (0 : Int32).toNatClampNeg) r186.toInt64) = 0 then
        fL_law_B2594 N Ls xs again23 v4 M189
      else
        none
      else none
    else
      fL_law_B2594 N Ls xs again23 v4 M189
  else
    none
  else none
  else none
def fL_law_B1777 (N Ls : Nat) (xs : Nat → Int32) (again23 : Int32 → zMem → zRES) (v4 : Int32) (M : zMem) : zRES :=
  zbl (fX7_stopped N M) fun r194 M195 =>
  zbl (fX8_stopped N M195) fun r196 M197 =>
  if r194 = r196 then
    fL_law_B2594 N Ls xs again23 v4 M197
  else
    none
def fL_law_B1709 (N Ls : Nat) (xs : Nat → Int32) (again23 : Int32 → zMem → zRES) (v4 : Int32) (M : zMem) : zRES :=
  if zin (v4 + 1) Ls = true then
  if zin (v4 + 2) Ls = true then
  zbl (fL_booked N (xs (v4 + 1).toNatClampNeg) (xs (v4 + 2).toNatClampNeg) M) fun r201 M202 =>
  if zin (v4 + 1) Ls = true then
  if zin (v4 + 2) Ls = true then
  zbl (fX8_booked N (xs (v4 + 1).toNatClampNeg) (xs (v4 + 2).toNatClampNeg) M202) fun r206 M207 =>
  zbl (fX8_thrown N M207) fun r208 M209 =>
  if r208 = r201 then
    if r201 = 0 then
      if zin (0 : Int32) 1 = true then
      if (lg_cmp (M209.2 87 (0 : Int32).toNatClampNeg) r206.toInt64) = 0 then
        fL_law_B2594 N Ls xs again23 v4 M209
      else
        none
      else none
    else
      fL_law_B2594 N Ls xs again23 v4 M209
  else
    none
  else none
  else none
  else none
  else none
def fL_law_B1641 (N Ls : Nat) (xs : Nat → Int32) (again23 : Int32 → zMem → zRES) (v4 : Int32) (M : zMem) : zRES :=
  if zin (v4 + 1) Ls = true then
  if zin (v4 + 2) Ls = true then
  zbl (fL_free N (xs (v4 + 1).toNatClampNeg) (xs (v4 + 2).toNatClampNeg) M) fun r216 M217 =>
  if zin (v4 + 1) Ls = true then
  if zin (v4 + 2) Ls = true then
  zbl (fX8_free N (xs (v4 + 1).toNatClampNeg) (xs (v4 + 2).toNatClampNeg) M217) fun r221 M222 =>
  zbl (fX8_thrown N M222) fun r223 M224 =>
  if r223 = r216 then
    if r216 = 0 then
      if zin (0 : Int32) 1 = true then
      if (lg_cmp (M224.2 87 (0 : Int32).toNatClampNeg) r221.toInt64) = 0 then
        fL_law_B2594 N Ls xs again23 v4 M224
      else
        none
      else none
    else
      fL_law_B2594 N Ls xs again23 v4 M224
  else
    none
  else none
  else none
  else none
  else none
def fL_law_B1573 (N Ls : Nat) (xs : Nat → Int32) (again23 : Int32 → zMem → zRES) (v4 : Int32) (M : zMem) : zRES :=
  if zin (v4 + 1) Ls = true then
  if zin (v4 + 2) Ls = true then
  zbl (fL_renew N (xs (v4 + 1).toNatClampNeg) (xs (v4 + 2).toNatClampNeg) M) fun r231 M232 =>
  if zin (v4 + 1) Ls = true then
  if zin (v4 + 2) Ls = true then
  zbl (fX8_renew N (xs (v4 + 1).toNatClampNeg) (xs (v4 + 2).toNatClampNeg) M232) fun r236 M237 =>
  zbl (fX8_thrown N M237) fun r238 M239 =>
  if r238 = r231 then
    if r231 = 0 then
      if zin (0 : Int32) 1 = true then
      if (lg_cmp (M239.2 87 (0 : Int32).toNatClampNeg) r236.toInt64) = 0 then
        fL_law_B2594 N Ls xs again23 v4 M239
      else
        none
      else none
    else
      fL_law_B2594 N Ls xs again23 v4 M239
  else
    none
  else none
  else none
  else none
  else none
def fL_law_B1493 (N Ls : Nat) (xs : Nat → Int32) (again23 : Int32 → zMem → zRES) (v4 : Int32) (M : zMem) : zRES :=
  if zin (v4 + 1) Ls = true then
  if zin (v4 + 2) Ls = true then
  if zin (v4 + 3) Ls = true then
  zbl (fL_book N (xs (v4 + 1).toNatClampNeg) (xs (v4 + 2).toNatClampNeg) (xs (v4 + 3).toNatClampNeg) M) fun r247 M248 =>
  if zin (v4 + 1) Ls = true then
  if zin (v4 + 2) Ls = true then
  if zin (v4 + 3) Ls = true then
  zbl (fX8_book N (xs (v4 + 1).toNatClampNeg) (xs (v4 + 2).toNatClampNeg) (xs (v4 + 3).toNatClampNeg) M248) fun r253 M254 =>
  zbl (fX8_thrown N M254) fun r255 M256 =>
  if r255 = r247 then
    if r247 = 0 then
      if zin (0 : Int32) 1 = true then
      if (lg_cmp (M256.2 87 (0 : Int32).toNatClampNeg) r253.toInt64) = 0 then
        fL_law_B2594 N Ls xs again23 v4 M256
      else
        none
      else none
    else
      fL_law_B2594 N Ls xs again23 v4 M256
  else
    none
  else none
  else none
  else none
  else none
  else none
  else none
def fL_law_B1437 (N Ls : Nat) (xs : Nat → Int32) (again23 : Int32 → zMem → zRES) (v4 : Int32) (M : zMem) : zRES :=
  if zin (v4 + 1) Ls = true then
  zbl (fL_store N (xs (v4 + 1).toNatClampNeg) M) fun r262 M263 =>
  if zin (v4 + 1) Ls = true then
  zbl (fX8_store N (xs (v4 + 1).toNatClampNeg) M263) fun r266 M267 =>
  zbl (fX8_thrown N M267) fun r268 M269 =>
  if r268 = r262 then
    if r262 = 0 then
      if zin (0 : Int32) 1 = true then
      if (lg_cmp (M269.2 87 (0 : Int32).toNatClampNeg) r266.toInt64) = 0 then
        fL_law_B2594 N Ls xs again23 v4 M269
      else
        none
      else none
    else
      fL_law_B2594 N Ls xs again23 v4 M269
  else
    none
  else none
  else none
def fL_law_B1381 (N Ls : Nat) (xs : Nat → Int32) (again23 : Int32 → zMem → zRES) (v4 : Int32) (M : zMem) : zRES :=
  if zin (v4 + 1) Ls = true then
  zbl (fL_condemn N (xs (v4 + 1).toNatClampNeg) M) fun r275 M276 =>
  if zin (v4 + 1) Ls = true then
  zbl (fX8_condemn N (xs (v4 + 1).toNatClampNeg) M276) fun r279 M280 =>
  zbl (fX8_thrown N M280) fun r281 M282 =>
  if r281 = r275 then
    if r275 = 0 then
      if zin (0 : Int32) 1 = true then
      if (lg_cmp (M282.2 87 (0 : Int32).toNatClampNeg) r279.toInt64) = 0 then
        fL_law_B2594 N Ls xs again23 v4 M282
      else
        none
      else none
    else
      fL_law_B2594 N Ls xs again23 v4 M282
  else
    none
  else none
  else none
def fL_law_B1301 (N Ls : Nat) (xs : Nat → Int32) (again23 : Int32 → zMem → zRES) (v4 : Int32) (M : zMem) : zRES :=
  if zin (v4 + 1) Ls = true then
  if zin (v4 + 2) Ls = true then
  if zin (v4 + 3) Ls = true then
  zbl (fL_deliver N (xs (v4 + 1).toNatClampNeg) (xs (v4 + 2).toNatClampNeg) (xs (v4 + 3).toNatClampNeg) M) fun r290 M291 =>
  if zin (v4 + 1) Ls = true then
  if zin (v4 + 2) Ls = true then
  if zin (v4 + 3) Ls = true then
  zbl (fX8_deliver N (xs (v4 + 1).toNatClampNeg) (xs (v4 + 2).toNatClampNeg) (xs (v4 + 3).toNatClampNeg) M291) fun r296 M297 =>
  zbl (fX8_thrown N M297) fun r298 M299 =>
  if r298 = r290 then
    if r290 = 0 then
      if zin (0 : Int32) 1 = true then
      if (lg_cmp (M299.2 87 (0 : Int32).toNatClampNeg) r296.toInt64) = 0 then
        fL_law_B2594 N Ls xs again23 v4 M299
      else
        none
      else none
    else
      fL_law_B2594 N Ls xs again23 v4 M299
  else
    none
  else none
  else none
  else none
  else none
  else none
  else none
def fL_law_B1257 (N Ls : Nat) (xs : Nat → Int32) (again23 : Int32 → zMem → zRES) (v4 : Int32) (M : zMem) : zRES :=
  zbl (fL_addLot N M) fun r304 M305 =>
  zbl (fX8_addLot N M305) fun r307 M308 =>
  zbl (fX8_thrown N M308) fun r309 M310 =>
  if r309 = r304 then
    if r304 = 0 then
      if zin (0 : Int32) 1 = true then
      if (lg_cmp (M310.2 87 (0 : Int32).toNatClampNeg) r307.toInt64) = 0 then
        fL_law_B2594 N Ls xs again23 v4 M310
      else
        none
      else none
    else
      fL_law_B2594 N Ls xs again23 v4 M310
  else
    none
def fL_law_B1189 (N Ls : Nat) (xs : Nat → Int32) (again23 : Int32 → zMem → zRES) (v4 : Int32) (M : zMem) : zRES :=
  if zin (v4 + 1) Ls = true then
  if zin (v4 + 2) Ls = true then
  zbl (fL_current N (xs (v4 + 1).toNatClampNeg) (xs (v4 + 2).toNatClampNeg) M) fun r317 M318 =>
  if zin (v4 + 1) Ls = true then
  if zin (v4 + 2) Ls = true then
  zbl (fX8_current N (xs (v4 + 1).toNatClampNeg) (xs (v4 + 2).toNatClampNeg) M318) fun r322 M323 =>
  zbl (fX8_thrown N M323) fun r324 M325 =>
  if r324 = r317 then
    if r317 = 0 then
      if zin (0 : Int32) 1 = true then
      if (lg_cmp (M325.2 87 (0 : Int32).toNatClampNeg) r322.toInt64) = 0 then
        fL_law_B2594 N Ls xs again23 v4 M325
      else
        none
      else none
    else
      fL_law_B2594 N Ls xs again23 v4 M325
  else
    none
  else none
  else none
  else none
  else none
def fL_law_B1126 (N Ls : Nat) (xs : Nat → Int32) (again23 : Int32 → zMem → zRES) (v4 : Int32) (M : zMem) : zRES :=
  if zin (v4 + 1) Ls = true then
  zbl (fL_wasHeld N (xs (v4 + 1).toNatClampNeg) M) fun r331 M332 =>
  if zin (v4 + 1) Ls = true then
  zbl (fX8_wasHeld N (xs (v4 + 1).toNatClampNeg) M332) fun r335 M336 =>
  zbl (fX8_thrown N M336) fun r337 M338 =>
  if r337 = r331 then
    if r331 = 0 then
      if zin (0 : Int32) 1 = true then
      if r335 = 0 then
        if (lg_cmp (M338.2 87 (0 : Int32).toNatClampNeg) 0) = 0 then
          fL_law_B2594 N Ls xs again23 v4 M338
        else
          none
      else
        if (lg_cmp (M338.2 87 (0 : Int32).toNatClampNeg) 1) = 0 then
          fL_law_B2594 N Ls xs again23 v4 M338
        else
          none
      else none
    else
      fL_law_B2594 N Ls xs again23 v4 M338
  else
    none
  else none
  else none
def fL_law_B1063 (N Ls : Nat) (xs : Nat → Int32) (again23 : Int32 → zMem → zRES) (v4 : Int32) (M : zMem) : zRES :=
  if zin (v4 + 1) Ls = true then
  zbl (fL_isHeld N (xs (v4 + 1).toNatClampNeg) M) fun r346 M347 =>
  if zin (v4 + 1) Ls = true then
  zbl (fX8_isHeld N (xs (v4 + 1).toNatClampNeg) M347) fun r350 M351 =>
  zbl (fX8_thrown N M351) fun r352 M353 =>
  if r352 = r346 then
    if r346 = 0 then
      if zin (0 : Int32) 1 = true then
      if r350 = 0 then
        if (lg_cmp (M353.2 87 (0 : Int32).toNatClampNeg) 0) = 0 then
          fL_law_B2594 N Ls xs again23 v4 M353
        else
          none
      else
        if (lg_cmp (M353.2 87 (0 : Int32).toNatClampNeg) 1) = 0 then
          fL_law_B2594 N Ls xs again23 v4 M353
        else
          none
      else none
    else
      fL_law_B2594 N Ls xs again23 v4 M353
  else
    none
  else none
  else none
def fL_law_B1007 (N Ls : Nat) (xs : Nat → Int32) (again23 : Int32 → zMem → zRES) (v4 : Int32) (M : zMem) : zRES :=
  if zin (v4 + 1) Ls = true then
  zbl (fL_holders N (xs (v4 + 1).toNatClampNeg) M) fun r361 M362 =>
  if zin (v4 + 1) Ls = true then
  zbl (fX8_holders N (xs (v4 + 1).toNatClampNeg) M362) fun r365 M366 =>
  zbl (fX8_thrown N M366) fun r367 M368 =>
  if r367 = r361 then
    if r361 = 0 then
      if zin (0 : Int32) 1 = true then
      if (lg_cmp (M368.2 87 (0 : Int32).toNatClampNeg) r365.toInt64) = 0 then
        fL_law_B2594 N Ls xs again23 v4 M368
      else
        none
      else none
    else
      fL_law_B2594 N Ls xs again23 v4 M368
  else
    none
  else none
  else none
def fL_law_B951 (N Ls : Nat) (xs : Nat → Int32) (again23 : Int32 → zMem → zRES) (v4 : Int32) (M : zMem) : zRES :=
  if zin (v4 + 1) Ls = true then
  zbl (fL_termOf N (xs (v4 + 1).toNatClampNeg) M) fun r374 M375 =>
  if zin (v4 + 1) Ls = true then
  zbl (fX8_termOf N (xs (v4 + 1).toNatClampNeg) M375) fun r378 M379 =>
  zbl (fX8_thrown N M379) fun r380 M381 =>
  if r380 = r374 then
    if r374 = 0 then
      if zin (0 : Int32) 1 = true then
      if (lg_cmp (M381.2 87 (0 : Int32).toNatClampNeg) r378.toInt64) = 0 then
        fL_law_B2594 N Ls xs again23 v4 M381
      else
        none
      else none
    else
      fL_law_B2594 N Ls xs again23 v4 M381
  else
    none
  else none
  else none
def fL_law_B938 (N Ls : Nat) (xs : Nat → Int32) (again23 : Int32 → zMem → zRES) (v4 : Int32) (M : zMem) : zRES :=
  zbl (fX7_versions N M) fun r386 M387 =>
  zbl (fX8_versions N M387) fun r388 M389 =>
  if r386 = r388 then
    fL_law_B2594 N Ls xs again23 v4 M389
  else
    none
def fL_law_B870 (N Ls : Nat) (xs : Nat → Int32) (again23 : Int32 → zMem → zRES) (v4 : Int32) (M : zMem) : zRES :=
  if zin (v4 + 1) Ls = true then
  if zin (v4 + 2) Ls = true then
  zbl (fL_versionAt N (xs (v4 + 1).toNatClampNeg) (xs (v4 + 2).toNatClampNeg) M) fun r393 M394 =>
  if zin (v4 + 1) Ls = true then
  if zin (v4 + 2) Ls = true then
  zbl (fX8_versionAt N (xs (v4 + 1).toNatClampNeg) (xs (v4 + 2).toNatClampNeg) M394) fun r398 M399 =>
  zbl (fX8_thrown N M399) fun r400 M401 =>
  if r400 = r393 then
    if r393 = 0 then
      if zin (0 : Int32) 1 = true then
      if (lg_cmp (M401.2 87 (0 : Int32).toNatClampNeg) r398.toInt64) = 0 then
        fL_law_B2594 N Ls xs again23 v4 M401
      else
        none
      else none
    else
      fL_law_B2594 N Ls xs again23 v4 M401
  else
    none
  else none
  else none
  else none
  else none
def fL_law_B814 (N Ls : Nat) (xs : Nat → Int32) (again23 : Int32 → zMem → zRES) (v4 : Int32) (M : zMem) : zRES :=
  if zin (v4 + 1) Ls = true then
  zbl (fL_entries N (xs (v4 + 1).toNatClampNeg) M) fun r407 M408 =>
  if zin (v4 + 1) Ls = true then
  zbl (fX8_entries N (xs (v4 + 1).toNatClampNeg) M408) fun r411 M412 =>
  zbl (fX8_thrown N M412) fun r413 M414 =>
  if r413 = r407 then
    if r407 = 0 then
      if zin (0 : Int32) 1 = true then
      if (lg_cmp (M414.2 87 (0 : Int32).toNatClampNeg) r411.toInt64) = 0 then
        fL_law_B2594 N Ls xs again23 v4 M414
      else
        none
      else none
    else
      fL_law_B2594 N Ls xs again23 v4 M414
  else
    none
  else none
  else none
def fL_law_B739 (N Ls : Nat) (xs : Nat → Int32) (again23 : Int32 → zMem → zRES) (v4 : Int32) (M : zMem) : zRES :=
  if zin (v4 + 1) Ls = true then
  if zin (v4 + 2) Ls = true then
  zbl (fL_reach N (xs (v4 + 1).toNatClampNeg) (xs (v4 + 2).toNatClampNeg) M) fun r421 M422 =>
  if zin (v4 + 1) Ls = true then
  if zin (v4 + 2) Ls = true then
  zbl (fX8_reach N (xs (v4 + 1).toNatClampNeg) (xs (v4 + 2).toNatClampNeg) M422) fun r426 M427 =>
  zbl (fX8_thrown N M427) fun r428 M429 =>
  if r428 = r421 then
    if r421 = 0 then
      if zin (0 : Int32) 1 = true then
      if r426 = 0 then
        if (lg_cmp (M429.2 87 (0 : Int32).toNatClampNeg) 0) = 0 then
          fL_law_B2594 N Ls xs again23 v4 M429
        else
          none
      else
        if (lg_cmp (M429.2 87 (0 : Int32).toNatClampNeg) 1) = 0 then
          fL_law_B2594 N Ls xs again23 v4 M429
        else
          none
      else none
    else
      fL_law_B2594 N Ls xs again23 v4 M429
  else
    none
  else none
  else none
  else none
  else none
def fL_law_B683 (N Ls : Nat) (xs : Nat → Int32) (again23 : Int32 → zMem → zRES) (v4 : Int32) (M : zMem) : zRES :=
  if zin (v4 + 1) Ls = true then
  zbl (fL_votedFor N (xs (v4 + 1).toNatClampNeg) M) fun r437 M438 =>
  if zin (v4 + 1) Ls = true then
  zbl (fX8_votedFor N (xs (v4 + 1).toNatClampNeg) M438) fun r441 M442 =>
  zbl (fX8_thrown N M442) fun r443 M444 =>
  if r443 = r437 then
    if r437 = 0 then
      if zin (0 : Int32) 1 = true then
      if (lg_cmp (M444.2 87 (0 : Int32).toNatClampNeg) r441.toInt64) = 0 then
        fL_law_B2594 N Ls xs again23 v4 M444
      else
        none
      else none
    else
      fL_law_B2594 N Ls xs again23 v4 M444
  else
    none
  else none
  else none
def fL_law_B627 (N Ls : Nat) (xs : Nat → Int32) (again23 : Int32 → zMem → zRES) (v4 : Int32) (M : zMem) : zRES :=
  if zin (v4 + 1) Ls = true then
  zbl (fL_term N (xs (v4 + 1).toNatClampNeg) M) fun r450 M451 =>
  if zin (v4 + 1) Ls = true then
  zbl (fX8_term N (xs (v4 + 1).toNatClampNeg) M451) fun r454 M455 =>
  zbl (fX8_thrown N M455) fun r456 M457 =>
  if r456 = r450 then
    if r450 = 0 then
      if zin (0 : Int32) 1 = true then
      if (lg_cmp (M457.2 87 (0 : Int32).toNatClampNeg) r454.toInt64) = 0 then
        fL_law_B2594 N Ls xs again23 v4 M457
      else
        none
      else none
    else
      fL_law_B2594 N Ls xs again23 v4 M457
  else
    none
  else none
  else none
def fL_law_B571 (N Ls : Nat) (xs : Nat → Int32) (again23 : Int32 → zMem → zRES) (v4 : Int32) (M : zMem) : zRES :=
  if zin (v4 + 1) Ls = true then
  zbl (fL_role N (xs (v4 + 1).toNatClampNeg) M) fun r463 M464 =>
  if zin (v4 + 1) Ls = true then
  zbl (fX8_role N (xs (v4 + 1).toNatClampNeg) M464) fun r467 M468 =>
  zbl (fX8_thrown N M468) fun r469 M470 =>
  if r469 = r463 then
    if r463 = 0 then
      if zin (0 : Int32) 1 = true then
      if (lg_cmp (M470.2 87 (0 : Int32).toNatClampNeg) r467.toInt64) = 0 then
        fL_law_B2594 N Ls xs again23 v4 M470
      else
        none
      else none
    else
      fL_law_B2594 N Ls xs again23 v4 M470
  else
    none
  else none
  else none
def fL_law_B503 (N Ls : Nat) (xs : Nat → Int32) (again23 : Int32 → zMem → zRES) (v4 : Int32) (M : zMem) : zRES :=
  if zin (v4 + 1) Ls = true then
  if zin (v4 + 2) Ls = true then
  zbl (fL_tell N (xs (v4 + 1).toNatClampNeg) (xs (v4 + 2).toNatClampNeg) M) fun r477 M478 =>
  if zin (v4 + 1) Ls = true then
  if zin (v4 + 2) Ls = true then
  zbl (fX8_tell N (xs (v4 + 1).toNatClampNeg) (xs (v4 + 2).toNatClampNeg) M478) fun r482 M483 =>
  zbl (fX8_thrown N M483) fun r484 M485 =>
  if r484 = r477 then
    if r477 = 0 then
      if zin (0 : Int32) 1 = true then
      if (lg_cmp (M485.2 87 (0 : Int32).toNatClampNeg) r482.toInt64) = 0 then
        fL_law_B2594 N Ls xs again23 v4 M485
      else
        none
      else none
    else
      fL_law_B2594 N Ls xs again23 v4 M485
  else
    none
  else none
  else none
  else none
  else none
def fL_law_B411 (N Ls : Nat) (xs : Nat → Int32) (again23 : Int32 → zMem → zRES) (v4 : Int32) (M : zMem) : zRES :=
  if zin (v4 + 1) Ls = true then
  if zin (v4 + 2) Ls = true then
  if zin (v4 + 3) Ls = true then
  if zin (v4 + 4) Ls = true then
  zbl (fL_propose N (xs (v4 + 1).toNatClampNeg) (xs (v4 + 2).toNatClampNeg) (xs (v4 + 3).toNatClampNeg) (xs (v4 + 4).toNatClampNeg) M) fun r494 M495 =>
  if zin (v4 + 1) Ls = true then
  if zin (v4 + 2) Ls = true then
  if zin (v4 + 3) Ls = true then
  if zin (v4 + 4) Ls = true then
  zbl (fX8_propose N (xs (v4 + 1).toNatClampNeg) (xs (v4 + 2).toNatClampNeg) (xs (v4 + 3).toNatClampNeg) (xs (v4 + 4).toNatClampNeg) M495) fun r501 M502 =>
  zbl (fX8_thrown N M502) fun r503 M504 =>
  if r503 = r494 then
    if r494 = 0 then
      if zin (0 : Int32) 1 = true then
      if (lg_cmp (M504.2 87 (0 : Int32).toNatClampNeg) r501.toInt64) = 0 then
        fL_law_B2594 N Ls xs again23 v4 M504
      else
        none
      else none
    else
      fL_law_B2594 N Ls xs again23 v4 M504
  else
    none
  else none
  else none
  else none
  else none
  else none
  else none
  else none
  else none
def fL_law_B336 (N Ls : Nat) (xs : Nat → Int32) (again23 : Int32 → zMem → zRES) (v4 : Int32) (M : zMem) : zRES :=
  if zin (v4 + 1) Ls = true then
  if zin (v4 + 2) Ls = true then
  zbl (fL_vote N (xs (v4 + 1).toNatClampNeg) (xs (v4 + 2).toNatClampNeg) M) fun r511 M512 =>
  if zin (v4 + 1) Ls = true then
  if zin (v4 + 2) Ls = true then
  zbl (fX8_vote N (xs (v4 + 1).toNatClampNeg) (xs (v4 + 2).toNatClampNeg) M512) fun r516 M517 =>
  zbl (fX8_thrown N M517) fun r518 M519 =>
  if r518 = r511 then
    if r511 = 0 then
      if zin (0 : Int32) 1 = true then
      if r516 = 0 then
        if (lg_cmp (M519.2 87 (0 : Int32).toNatClampNeg) 0) = 0 then
          fL_law_B2594 N Ls xs again23 v4 M519
        else
          none
      else
        if (lg_cmp (M519.2 87 (0 : Int32).toNatClampNeg) 1) = 0 then
          fL_law_B2594 N Ls xs again23 v4 M519
        else
          none
      else none
    else
      fL_law_B2594 N Ls xs again23 v4 M519
  else
    none
  else none
  else none
  else none
  else none
def fL_law_B280 (N Ls : Nat) (xs : Nat → Int32) (again23 : Int32 → zMem → zRES) (v4 : Int32) (M : zMem) : zRES :=
  if zin (v4 + 1) Ls = true then
  zbl (fL_stand N (xs (v4 + 1).toNatClampNeg) M) fun r527 M528 =>
  if zin (v4 + 1) Ls = true then
  zbl (fX8_stand N (xs (v4 + 1).toNatClampNeg) M528) fun r531 M532 =>
  zbl (fX8_thrown N M532) fun r533 M534 =>
  if r533 = r527 then
    if r527 = 0 then
      if zin (0 : Int32) 1 = true then
      if (lg_cmp (M534.2 87 (0 : Int32).toNatClampNeg) r531.toInt64) = 0 then
        fL_law_B2594 N Ls xs again23 v4 M534
      else
        none
      else none
    else
      fL_law_B2594 N Ls xs again23 v4 M534
  else
    none
  else none
  else none
def fL_law_B224 (N Ls : Nat) (xs : Nat → Int32) (again23 : Int32 → zMem → zRES) (v4 : Int32) (M : zMem) : zRES :=
  if zin (v4 + 1) Ls = true then
  zbl (fL_part N (xs (v4 + 1).toNatClampNeg) M) fun r540 M541 =>
  if zin (v4 + 1) Ls = true then
  zbl (fX8_part N (xs (v4 + 1).toNatClampNeg) M541) fun r544 M545 =>
  zbl (fX8_thrown N M545) fun r546 M547 =>
  if r546 = r540 then
    if r540 = 0 then
      if zin (0 : Int32) 1 = true then
      if (lg_cmp (M547.2 87 (0 : Int32).toNatClampNeg) r544.toInt64) = 0 then
        fL_law_B2594 N Ls xs again23 v4 M547
      else
        none
      else none
    else
      fL_law_B2594 N Ls xs again23 v4 M547
  else
    none
  else none
  else none
def fL_law_S23 (N Ls : Nat) (xs : Nat → Int32) (again23 : Int32 → zMem → zRES) (v4 : Int32) (M : zMem) : zRES :=
  if ((nI Ls) - 5) < v4 then
    some (.inl 1, M)
  else
    if zin v4 Ls = true then
    if ((xs v4.toNatClampNeg) &&& 63) = 0 then
      fL_law_B224 N Ls xs again23 v4 M
    else
    if ((xs v4.toNatClampNeg) &&& 63) = 1 then
      fL_law_B280 N Ls xs again23 v4 M
    else
    if ((xs v4.toNatClampNeg) &&& 63) = 2 then
      fL_law_B336 N Ls xs again23 v4 M
    else
    if ((xs v4.toNatClampNeg) &&& 63) = 3 then
      fL_law_B411 N Ls xs again23 v4 M
    else
    if ((xs v4.toNatClampNeg) &&& 63) = 4 then
      fL_law_B503 N Ls xs again23 v4 M
    else
    if ((xs v4.toNatClampNeg) &&& 63) = 5 then
      fL_law_B571 N Ls xs again23 v4 M
    else
    if ((xs v4.toNatClampNeg) &&& 63) = 6 then
      fL_law_B627 N Ls xs again23 v4 M
    else
    if ((xs v4.toNatClampNeg) &&& 63) = 7 then
      fL_law_B683 N Ls xs again23 v4 M
    else
    if ((xs v4.toNatClampNeg) &&& 63) = 8 then
      fL_law_B739 N Ls xs again23 v4 M
    else
    if ((xs v4.toNatClampNeg) &&& 63) = 9 then
      fL_law_B814 N Ls xs again23 v4 M
    else
    if ((xs v4.toNatClampNeg) &&& 63) = 10 then
      fL_law_B870 N Ls xs again23 v4 M
    else
    if ((xs v4.toNatClampNeg) &&& 63) = 11 then
      fL_law_B938 N Ls xs again23 v4 M
    else
    if ((xs v4.toNatClampNeg) &&& 63) = 12 then
      fL_law_B951 N Ls xs again23 v4 M
    else
    if ((xs v4.toNatClampNeg) &&& 63) = 13 then
      fL_law_B1007 N Ls xs again23 v4 M
    else
    if ((xs v4.toNatClampNeg) &&& 63) = 14 then
      fL_law_B1063 N Ls xs again23 v4 M
    else
    if ((xs v4.toNatClampNeg) &&& 63) = 15 then
      fL_law_B1126 N Ls xs again23 v4 M
    else
    if ((xs v4.toNatClampNeg) &&& 63) = 16 then
      fL_law_B1189 N Ls xs again23 v4 M
    else
    if ((xs v4.toNatClampNeg) &&& 63) = 17 then
      fL_law_B1257 N Ls xs again23 v4 M
    else
    if ((xs v4.toNatClampNeg) &&& 63) = 18 then
      fL_law_B1301 N Ls xs again23 v4 M
    else
    if ((xs v4.toNatClampNeg) &&& 63) = 19 then
      fL_law_B1381 N Ls xs again23 v4 M
    else
    if ((xs v4.toNatClampNeg) &&& 63) = 20 then
      fL_law_B1437 N Ls xs again23 v4 M
    else
    if ((xs v4.toNatClampNeg) &&& 63) = 21 then
      fL_law_B1493 N Ls xs again23 v4 M
    else
    if ((xs v4.toNatClampNeg) &&& 63) = 22 then
      fL_law_B1573 N Ls xs again23 v4 M
    else
    if ((xs v4.toNatClampNeg) &&& 63) = 23 then
      fL_law_B1641 N Ls xs again23 v4 M
    else
    if ((xs v4.toNatClampNeg) &&& 63) = 24 then
      fL_law_B1709 N Ls xs again23 v4 M
    else
    if ((xs v4.toNatClampNeg) &&& 63) = 25 then
      fL_law_B1777 N Ls xs again23 v4 M
    else
    if ((xs v4.toNatClampNeg) &&& 63) = 26 then
      fL_law_B1790 N Ls xs again23 v4 M
    else
    if ((xs v4.toNatClampNeg) &&& 63) = 27 then
      fL_law_B1846 N Ls xs again23 v4 M
    else
    if ((xs v4.toNatClampNeg) &&& 63) = 28 then
      fL_law_B1859 N Ls xs again23 v4 M
    else
    if ((xs v4.toNatClampNeg) &&& 63) = 29 then
      fL_law_B1915 N Ls xs again23 v4 M
    else
    if ((xs v4.toNatClampNeg) &&& 63) = 30 then
      fL_law_B1928 N Ls xs again23 v4 M
    else
    if ((xs v4.toNatClampNeg) &&& 63) = 31 then
      fL_law_B1984 N Ls xs again23 v4 M
    else
    if ((xs v4.toNatClampNeg) &&& 63) = 32 then
      fL_law_B2040 N Ls xs again23 v4 M
    else
    if ((xs v4.toNatClampNeg) &&& 63) = 33 then
      fL_law_B2096 N Ls xs again23 v4 M
    else
    if ((xs v4.toNatClampNeg) &&& 63) = 34 then
      fL_law_B2152 N Ls xs again23 v4 M
    else
    if ((xs v4.toNatClampNeg) &&& 63) = 35 then
      fL_law_B2208 N Ls xs again23 v4 M
    else
    if ((xs v4.toNatClampNeg) &&& 63) = 36 then
      fL_law_B2276 N Ls xs again23 v4 M
    else
    if ((xs v4.toNatClampNeg) &&& 63) = 37 then
      fL_law_B2289 N Ls xs again23 v4 M
    else
    if ((xs v4.toNatClampNeg) &&& 63) = 38 then
      fL_law_B2345 N Ls xs again23 v4 M
    else
    if ((xs v4.toNatClampNeg) &&& 63) = 39 then
      fL_law_B2413 N Ls xs again23 v4 M
    else
    if ((xs v4.toNatClampNeg) &&& 63) = 40 then
      fL_law_B2426 N Ls xs again23 v4 M
    else
    if ((xs v4.toNatClampNeg) &&& 63) = 41 then
      fL_law_B2482 N Ls xs again23 v4 M
    else
    if ((xs v4.toNatClampNeg) &&& 63) = 42 then
      fL_law_B2538 N Ls xs again23 v4 M
    else
      fL_law_B2594 N Ls xs again23 v4 M
    else none
def fL_law_B23 (N Ls : Nat) (xs : Nat → Int32) : Nat → Int32 → zMem → zRES
  | 0, _, _ => none
  | n + 1, v4, M => fL_law_S23 N Ls xs (fL_law_B23 N Ls xs n) v4 M
