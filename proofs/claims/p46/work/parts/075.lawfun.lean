def fL_law_B1214 (Ls : Nat) (xs : Nat → Int32) (N : Nat) (v3 : Int32) (v4 : Int32) (v6 : Int32) (M : zMem) : zRES :=
  if v4 = 0 then
    none
  else
    zbl (fL_batches N M) fun r267 M268 =>
    if r267 = 0 then
      none
    else
      zbl (fX7_recalls N M268) fun r270 M271 =>
      if v6 < r270 then
        none
      else
        if v3 < 0 then
          none
        else
          some (.inl 1, M271)
def fL_law_B1206 (Ls : Nat) (xs : Nat → Int32) (N : Nat) (again1134 : Int32 → Int32 → Int32 → Int32 → zMem → zRES) (v3 : Int32) (v6 : Int32) (v7 : Int32) (s0 : Int32) (M : zMem) : zRES :=
  again1134 v3 s0 v6 (v7 + 1) M
def fL_law_B1205 (Ls : Nat) (xs : Nat → Int32) (N : Nat) (again1134 : Int32 → Int32 → Int32 → Int32 → zMem → zRES) (v3 : Int32) (v6 : Int32) (v7 : Int32) (M : zMem) : zRES :=
  fL_law_B1206 Ls xs N again1134 v3 v6 v7 0 M
def fL_law_B1188 (Ls : Nat) (xs : Nat → Int32) (N : Nat) (again1134 : Int32 → Int32 → Int32 → Int32 → zMem → zRES) (v3 : Int32) (v6 : Int32) (v7 : Int32) (M : zMem) : zRES :=
  zbl (fX7_recallOf N v7 M) fun r261 M262 =>
  zbl (fX7_batches N M262) fun r263 M264 =>
  if r263 ≤ r261 then
    fL_law_B1205 Ls xs N again1134 v3 v6 v7 M264
  else
    fL_law_B1206 Ls xs N again1134 v3 v6 v7 1 M264
def fL_law_B1134 (Ls : Nat) (xs : Nat → Int32) (N : Nat) : Nat → Int32 → Int32 → Int32 → Int32 → zMem → zRES
  | 0, _, _, _, _, _ => none
  | n + 1, v3, v4, v6, v7, M =>
  zbl (fX7_recalls N M) fun r245 M246 =>
  if r245 ≤ v7 then
    fL_law_B1214 Ls xs N v3 v4 v6 M246
  else
    if v4 = 0 then
      fL_law_B1214 Ls xs N v3 v4 v6 M246
    else
      zbl (fX7_calledBack N v7 M246) fun r249 M250 =>
      zv (v6 + r249) fun x251 =>
      zbl (fX7_calledBack N v7 M250) fun r252 M253 =>
      if r252 ≤ 0 then
        fL_law_B1205 Ls xs N (fL_law_B1134 Ls xs N n) v3 x251 v7 M253
      else
        zbl (fX7_why N v7 M253) fun r255 M256 =>
        if r255 = 1 then
          fL_law_B1188 Ls xs N (fL_law_B1134 Ls xs N n) v3 x251 v7 M256
        else
          zbl (fX7_why N v7 M256) fun r258 M259 =>
          if r258 = 2 then
            fL_law_B1188 Ls xs N (fL_law_B1134 Ls xs N n) v3 x251 v7 M259
          else
            fL_law_B1205 Ls xs N (fL_law_B1134 Ls xs N n) v3 x251 v7 M259
def fL_law_B1128 (Ls : Nat) (xs : Nat → Int32) (N : Nat) (v3 : Int32) (v4 : Int32) (M : zMem) : zRES :=
  fL_law_B1134 Ls xs N N v3 v4 0 0 M
def fL_law_B1120 (Ls : Nat) (xs : Nat → Int32) (N : Nat) (again1080 : Int32 → Int32 → Int32 → zMem → zRES) (v3 : Int32) (v6 : Int32) (s0 : Int32) (M : zMem) : zRES :=
  again1080 v3 s0 (v6 + 1) M
def fL_law_B1080 (Ls : Nat) (xs : Nat → Int32) (N : Nat) : Nat → Int32 → Int32 → Int32 → zMem → zRES
  | 0, _, _, _, _ => none
  | n + 1, v3, v4, v6, M =>
  zbl (fX7_batches N M) fun r235 M236 =>
  if r235 ≤ v6 then
    fL_law_B1128 Ls xs N v3 v4 M236
  else
    if (2 : Int32) ≤ v6 then
      fL_law_B1128 Ls xs N v3 v4 M236
    else
      if v4 = 0 then
        fL_law_B1128 Ls xs N v3 v4 M236
      else
        zbl (fX7_barred N v6 M236) fun r240 M241 =>
        zbl (fX7_barredAnew N v6 M241) fun r242 M243 =>
        if r240 = r242 then
          fL_law_B1120 Ls xs N (fL_law_B1080 Ls xs N n) v3 v6 1 M243
        else
          fL_law_B1120 Ls xs N (fL_law_B1080 Ls xs N n) v3 v6 0 M243
def fL_law_B1077 (Ls : Nat) (xs : Nat → Int32) (N : Nat) (v3 : Int32) (v4 : Int32) (M : zMem) : zRES :=
  fL_law_B1080 Ls xs N N v3 v4 0 M
def fL_law_B1069 (Ls : Nat) (xs : Nat → Int32) (N : Nat) (again65 : Int32 → Int32 → Int32 → Int32 → Int32 → zMem → zRES) (v2 : Int32) (v3 : Int32) (v5 : Int32) (v6 : Int32) (s0 : Int32) (M : zMem) : zRES :=
  again65 v2 v3 s0 v5 (v6 + 1) M
def fL_law_B1068 (Ls : Nat) (xs : Nat → Int32) (N : Nat) (again65 : Int32 → Int32 → Int32 → Int32 → Int32 → zMem → zRES) (v2 : Int32) (v3 : Int32) (v5 : Int32) (v6 : Int32) (M : zMem) : zRES :=
  fL_law_B1069 Ls xs N again65 v2 v3 v5 v6 0 M
def fL_law_B1064 (Ls : Nat) (xs : Nat → Int32) (N : Nat) (again65 : Int32 → Int32 → Int32 → Int32 → Int32 → zMem → zRES) (v2 : Int32) (v3 : Int32) (v5 : Int32) (v6 : Int32) (M : zMem) : zRES :=
  fL_law_B1069 Ls xs N again65 v2 v3 v5 v6 1 M
def fL_law_B1019 (Ls : Nat) (xs : Nat → Int32) (N : Nat) (again65 : Int32 → Int32 → Int32 → Int32 → Int32 → zMem → zRES) (v2 : Int32) (v3 : Int32) (v4 : Int32) (v5 : Int32) (v6 : Int32) (v8 : Int32) (v9 : Int32) (M : zMem) : zRES :=
  if v4 = 0 then
    fL_law_B1068 Ls xs N again65 v2 v3 v5 v6 M
  else
    zbl (fL_roles N M) fun r222 M223 =>
    if r222 = 0 then
      fL_law_B1068 Ls xs N again65 v2 v3 v5 v6 M223
    else
      zbl (fL_logs N v8 M223) fun r225 M226 =>
      if r225 = 0 then
        fL_law_B1068 Ls xs N again65 v2 v3 v5 v6 M226
      else
        zbl (fL_logs N v9 M226) fun r228 M229 =>
        if r228 = 0 then
          fL_law_B1068 Ls xs N again65 v2 v3 v5 v6 M229
        else
          if (v6 - v6 / 4 * 4) < 3 then
            fL_law_B1064 Ls xs N again65 v2 v3 v5 v6 M229
          else
            zbl (fL_batches N M229) fun r232 M233 =>
            if r232 = 0 then
              fL_law_B1068 Ls xs N again65 v2 v3 v5 v6 M233
            else
              fL_law_B1064 Ls xs N again65 v2 v3 v5 v6 M233
def fL_law_B1011 (Ls : Nat) (xs : Nat → Int32) (N : Nat) (again65 : Int32 → Int32 → Int32 → Int32 → Int32 → zMem → zRES) (again972 : Int32 → Int32 → Int32 → Int32 → Int32 → Int32 → Int32 → Int32 → Int32 → zMem → zRES) (v2 : Int32) (v3 : Int32) (v5 : Int32) (v6 : Int32) (v8 : Int32) (v9 : Int32) (v11 : Int32) (v13 : Int32) (s0 : Int32) (M : zMem) : zRES :=
  again972 v2 v3 s0 v5 v6 v8 v9 v11 (v13 + 1) M
def fL_law_B972 (Ls : Nat) (xs : Nat → Int32) (N : Nat) (again65 : Int32 → Int32 → Int32 → Int32 → Int32 → zMem → zRES) : Nat → Int32 → Int32 → Int32 → Int32 → Int32 → Int32 → Int32 → Int32 → Int32 → zMem → zRES
  | 0, _, _, _, _, _, _, _, _, _, _ => none
  | n + 1, v2, v3, v4, v5, v6, v8, v9, v11, v13, M =>
  zbl (fX7_traced N v11 M) fun r212 M213 =>
  if r212 ≤ v13 then
    fL_law_B1019 Ls xs N again65 v2 v3 v4 v5 v6 v8 v9 M213
  else
    if v4 = 0 then
      fL_law_B1019 Ls xs N again65 v2 v3 v4 v5 v6 v8 v9 M213
    else
      zbl (fX7_tracedAt N v11 v13 M213) fun r216 M217 =>
      zbl (fX7_barred N r216 M217) fun r218 M219 =>
      if (r218 &&& 2) = 2 then
        fL_law_B1011 Ls xs N again65 (fL_law_B972 Ls xs N again65 n) v2 v3 v5 v6 v8 v9 v11 v13 1 M219
      else
        fL_law_B1011 Ls xs N again65 (fL_law_B972 Ls xs N again65 n) v2 v3 v5 v6 v8 v9 v11 v13 0 M219
def fL_law_B967 (Ls : Nat) (xs : Nat → Int32) (N : Nat) (again65 : Int32 → Int32 → Int32 → Int32 → Int32 → zMem → zRES) (v2 : Int32) (v3 : Int32) (v5 : Int32) (v6 : Int32) (v8 : Int32) (v9 : Int32) (v11 : Int32) (s0 : Int32) (M : zMem) : zRES :=
  fL_law_B972 Ls xs N again65 N v2 v3 s0 v5 v6 v8 v9 v11 0 M
def fL_law_B966 (Ls : Nat) (xs : Nat → Int32) (N : Nat) (again65 : Int32 → Int32 → Int32 → Int32 → Int32 → zMem → zRES) (v2 : Int32) (v3 : Int32) (v5 : Int32) (v6 : Int32) (v8 : Int32) (v9 : Int32) (v11 : Int32) (M : zMem) : zRES :=
  fL_law_B967 Ls xs N again65 v2 v3 v5 v6 v8 v9 v11 0 M
def fL_law_B912 (Ls : Nat) (xs : Nat → Int32) (N : Nat) (again65 : Int32 → Int32 → Int32 → Int32 → Int32 → zMem → zRES) (v2 : Int32) (v3 : Int32) (v4 : Int32) (v5 : Int32) (v6 : Int32) (v7 : Int32) (v8 : Int32) (v9 : Int32) (M : zMem) : zRES :=
  if v2 ≤ 0 then
    fL_law_B1019 Ls xs N again65 v2 v3 v4 v5 v6 v8 v9 M
  else
    zbl (fL_low N v7 3 M) fun r199 M200 =>
    if r199 = 0 then
      zbl (fL_low N (v7 >>> (9 &&& 31)) v2 M200) fun r202 M203 =>
      zbl (fL_condemn N r202 M203) fun r204 M205 =>
      if r204 < (-3) then
        fL_law_B966 Ls xs N again65 v2 v3 v5 v6 v8 v9 r202 M205
      else
        zbl (fL_condemn N r202 M205) fun r208 M209 =>
        if r208 = (-3) then
          fL_law_B967 Ls xs N again65 v2 v3 v5 v6 v8 v9 r202 1 M209
        else
          fL_law_B966 Ls xs N again65 v2 v3 v5 v6 v8 v9 r202 M209
    else
      fL_law_B1019 Ls xs N again65 v2 v3 v4 v5 v6 v8 v9 M200
def fL_law_B907 (Ls : Nat) (xs : Nat → Int32) (N : Nat) (again65 : Int32 → Int32 → Int32 → Int32 → Int32 → zMem → zRES) (v2 : Int32) (v3 : Int32) (v5 : Int32) (v6 : Int32) (v8 : Int32) (v9 : Int32) (s0 : Int32) (M : zMem) : zRES :=
  fL_law_B1019 Ls xs N again65 v2 v3 s0 v5 v6 v8 v9 M
def fL_law_B906 (Ls : Nat) (xs : Nat → Int32) (N : Nat) (again65 : Int32 → Int32 → Int32 → Int32 → Int32 → zMem → zRES) (v2 : Int32) (v3 : Int32) (v5 : Int32) (v6 : Int32) (v8 : Int32) (v9 : Int32) (M : zMem) : zRES :=
  fL_law_B907 Ls xs N again65 v2 v3 v5 v6 v8 v9 0 M
def fL_law_B801 (Ls : Nat) (xs : Nat → Int32) (N : Nat) (again65 : Int32 → Int32 → Int32 → Int32 → Int32 → zMem → zRES) (v2 : Int32) (v3 : Int32) (v4 : Int32) (v5 : Int32) (v6 : Int32) (v7 : Int32) (v8 : Int32) (v9 : Int32) (M : zMem) : zRES :=
  zbl (fX7_batches N M) fun r174 M175 =>
  if r174 ≤ 0 then
    fL_law_B912 Ls xs N again65 v2 v3 v4 v5 v6 v7 v8 v9 M175
  else
    zbl (fX7_batches N M175) fun r177 M178 =>
    zbl (fL_low N v7 r177 M178) fun r179 M180 =>
    zbl (fX7_left N r179 M180) fun r181 M182 =>
    zbl (fL_low N (v7 >>> (9 &&& 31)) 9 M182) fun r183 M184 =>
    zbl (fL_sell N r179 ((1 : Int32) + r183) M184) fun r185 M186 =>
    if r185 = (-3) then
      zbl (fX7_left N r179 M186) fun r189 M190 =>
      if r189 = r181 then
        fL_law_B907 Ls xs N again65 v2 v3 v5 v6 v8 v9 1 M190
      else
        fL_law_B907 Ls xs N again65 v2 v3 v5 v6 v8 v9 0 M190
    else
      zbl (fL_low N (v7 >>> (9 &&& 31)) 9 M186) fun r192 M193 =>
      if r185 = ((r181 - 1) - r192) then
        zbl (fX7_barred N r179 M193) fun r195 M196 =>
        if r195 = 0 then
          fL_law_B907 Ls xs N again65 v2 v3 v5 v6 v8 v9 1 M196
        else
          fL_law_B906 Ls xs N again65 v2 v3 v5 v6 v8 v9 M196
      else
        fL_law_B906 Ls xs N again65 v2 v3 v5 v6 v8 v9 M193
def fL_law_B789 (Ls : Nat) (xs : Nat → Int32) (N : Nat) (again65 : Int32 → Int32 → Int32 → Int32 → Int32 → zMem → zRES) (v2 : Int32) (v3 : Int32) (v5 : Int32) (v6 : Int32) (v8 : Int32) (v9 : Int32) (s0 : Int32) (M : zMem) : zRES :=
  fL_law_B1019 Ls xs N again65 v2 v3 s0 v5 v6 v8 v9 M
def fL_law_B784 (Ls : Nat) (xs : Nat → Int32) (N : Nat) (again65 : Int32 → Int32 → Int32 → Int32 → Int32 → zMem → zRES) (v2 : Int32) (v3 : Int32) (v5 : Int32) (v6 : Int32) (v8 : Int32) (v9 : Int32) (M : zMem) : zRES :=
  fL_law_B789 Ls xs N again65 v2 v3 v5 v6 v8 v9 1 M
def fL_law_B746 (Ls : Nat) (xs : Nat → Int32) (N : Nat) (again65 : Int32 → Int32 → Int32 → Int32 → Int32 → zMem → zRES) (v2 : Int32) (v3 : Int32) (v5 : Int32) (v6 : Int32) (v7 : Int32) (v8 : Int32) (v9 : Int32) (M : zMem) : zRES :=
  zbl (fX7_batches N M) fun r162 M163 =>
  zbl (fX7_time N M163) fun r164 M165 =>
  if (900 : Int32) < r164 then
    fL_law_B784 Ls xs N again65 v2 v3 v5 v6 v8 v9 M165
  else
    zbl (fL_low N v7 3 M165) fun r167 M168 =>
    zbl (fX7_pass N ((1 : Int32) + r167) M168) fun r169 M170 =>
    zbl (fX7_batches N M170) fun r171 M172 =>
    if r169 = (r171 - r162) then
      fL_law_B784 Ls xs N again65 v2 v3 v5 v6 v8 v9 M172
    else
      fL_law_B789 Ls xs N again65 v2 v3 v5 v6 v8 v9 0 M172
def fL_law_B734 (Ls : Nat) (xs : Nat → Int32) (N : Nat) (again65 : Int32 → Int32 → Int32 → Int32 → Int32 → zMem → zRES) (v2 : Int32) (v3 : Int32) (v5 : Int32) (v6 : Int32) (v8 : Int32) (v9 : Int32) (s0 : Int32) (M : zMem) : zRES :=
  fL_law_B1019 Ls xs N again65 v2 v3 s0 v5 v6 v8 v9 M
def fL_law_B733 (Ls : Nat) (xs : Nat → Int32) (N : Nat) (again65 : Int32 → Int32 → Int32 → Int32 → Int32 → zMem → zRES) (v2 : Int32) (v3 : Int32) (v5 : Int32) (v6 : Int32) (v8 : Int32) (v9 : Int32) (M : zMem) : zRES :=
  fL_law_B734 Ls xs N again65 v2 v3 v5 v6 v8 v9 0 M
def fL_law_B729 (Ls : Nat) (xs : Nat → Int32) (N : Nat) (again65 : Int32 → Int32 → Int32 → Int32 → Int32 → zMem → zRES) (v2 : Int32) (v3 : Int32) (v5 : Int32) (v6 : Int32) (v8 : Int32) (v9 : Int32) (M : zMem) : zRES :=
  fL_law_B734 Ls xs N again65 v2 v3 v5 v6 v8 v9 1 M
def fL_law_B651 (Ls : Nat) (xs : Nat → Int32) (N : Nat) (again65 : Int32 → Int32 → Int32 → Int32 → Int32 → zMem → zRES) (v2 : Int32) (v3 : Int32) (v5 : Int32) (v6 : Int32) (v7 : Int32) (v8 : Int32) (v9 : Int32) (M : zMem) : zRES :=
  zbl (fX7_time N M) fun r140 M141 =>
  zbl (fL_low N (v7 >>> (9 &&& 31)) 3 M141) fun r142 M143 =>
  zv (r140 + r142) fun x144 =>
  zbl (fL_low N v7 2 M143) fun r145 M146 =>
  zbl (fL_book N v8 x144 r145 M146) fun r147 M148 =>
  if r147 = (-3) then
    fL_law_B729 Ls xs N again65 v2 v3 v5 v6 v8 v9 M148
  else
    zbl (fX7_booked N v8 x144 M148) fun r151 M152 =>
    if r151 = r147 then
      zbl (fX7_isHeld N r147 M152) fun r154 M155 =>
      if r154 = 0 then
        fL_law_B733 Ls xs N again65 v2 v3 v5 v6 v8 v9 M155
      else
        zbl (fL_low N v7 2 M155) fun r157 M158 =>
        zbl (fX7_current N v8 r157 M158) fun r159 M160 =>
        if r159 = r147 then
          fL_law_B729 Ls xs N again65 v2 v3 v5 v6 v8 v9 M160
        else
          fL_law_B733 Ls xs N again65 v2 v3 v5 v6 v8 v9 M160
    else
      fL_law_B733 Ls xs N again65 v2 v3 v5 v6 v8 v9 M152
def fL_law_B639 (Ls : Nat) (xs : Nat → Int32) (N : Nat) (again65 : Int32 → Int32 → Int32 → Int32 → Int32 → zMem → zRES) (v2 : Int32) (v3 : Int32) (v5 : Int32) (v6 : Int32) (v8 : Int32) (v9 : Int32) (s0 : Int32) (M : zMem) : zRES :=
  fL_law_B1019 Ls xs N again65 v2 v3 s0 v5 v6 v8 v9 M
def fL_law_B638 (Ls : Nat) (xs : Nat → Int32) (N : Nat) (again65 : Int32 → Int32 → Int32 → Int32 → Int32 → zMem → zRES) (v2 : Int32) (v3 : Int32) (v5 : Int32) (v6 : Int32) (v8 : Int32) (v9 : Int32) (M : zMem) : zRES :=
  fL_law_B639 Ls xs N again65 v2 v3 v5 v6 v8 v9 0 M
def fL_law_B634 (Ls : Nat) (xs : Nat → Int32) (N : Nat) (again65 : Int32 → Int32 → Int32 → Int32 → Int32 → zMem → zRES) (v2 : Int32) (v3 : Int32) (v5 : Int32) (v6 : Int32) (v8 : Int32) (v9 : Int32) (M : zMem) : zRES :=
  fL_law_B639 Ls xs N again65 v2 v3 v5 v6 v8 v9 1 M
def fL_law_B546 (Ls : Nat) (xs : Nat → Int32) (N : Nat) (again65 : Int32 → Int32 → Int32 → Int32 → Int32 → zMem → zRES) (v2 : Int32) (v3 : Int32) (v4 : Int32) (v5 : Int32) (v6 : Int32) (v7 : Int32) (v8 : Int32) (v9 : Int32) (M : zMem) : zRES :=
  zbl (fX7_store N v8 M) fun r120 M121 =>
  zbl (fL_low N (v7 >>> (9 &&& 31)) v2 M121) fun r122 M123 =>
  zbl (fL_low N v7 9 M123) fun r124 M125 =>
  zbl (fL_deliver N v8 r122 ((1 : Int32) + r124) M125) fun r126 M127 =>
  if v4 = 0 then
    fL_law_B638 Ls xs N again65 v2 v3 v5 v6 v8 v9 M127
  else
    if r126 = (-3) then
      zbl (fX7_store N v8 M127) fun r131 M132 =>
      if r131 = r120 then
        fL_law_B634 Ls xs N again65 v2 v3 v5 v6 v8 v9 M132
      else
        fL_law_B638 Ls xs N again65 v2 v3 v5 v6 v8 v9 M132
    else
      zbl (fX7_store N v8 M127) fun r134 M135 =>
      if r134 = r126 then
        zbl (fL_low N v7 9 M135) fun r137 M138 =>
        if r126 = ((r120 + 1) + r137) then
          fL_law_B634 Ls xs N again65 v2 v3 v5 v6 v8 v9 M138
        else
          fL_law_B638 Ls xs N again65 v2 v3 v5 v6 v8 v9 M138
      else
        fL_law_B638 Ls xs N again65 v2 v3 v5 v6 v8 v9 M135
def fL_law_B541 (Ls : Nat) (xs : Nat → Int32) (N : Nat) (again65 : Int32 → Int32 → Int32 → Int32 → Int32 → zMem → zRES) (v2 : Int32) (v3 : Int32) (v5 : Int32) (v6 : Int32) (v7 : Int32) (v8 : Int32) (v9 : Int32) (s0 : Int32) (M : zMem) : zRES :=
  fL_law_B546 Ls xs N again65 (v2 + 1) v3 s0 v5 v6 v7 v8 v9 M
def fL_law_B528 (Ls : Nat) (xs : Nat → Int32) (N : Nat) (again65 : Int32 → Int32 → Int32 → Int32 → Int32 → zMem → zRES) (v2 : Int32) (v3 : Int32) (v5 : Int32) (v6 : Int32) (v7 : Int32) (v8 : Int32) (v9 : Int32) (M : zMem) : zRES :=
  zbl (fX7_addLot N M) fun r117 M118 =>
  if r117 = v2 then
    fL_law_B541 Ls xs N again65 v2 v3 v5 v6 v7 v8 v9 1 M118
  else
    fL_law_B541 Ls xs N again65 v2 v3 v5 v6 v7 v8 v9 0 M118
def fL_law_B509 (Ls : Nat) (xs : Nat → Int32) (N : Nat) (again65 : Int32 → Int32 → Int32 → Int32 → Int32 → zMem → zRES) (v2 : Int32) (v3 : Int32) (v4 : Int32) (v5 : Int32) (v6 : Int32) (v7 : Int32) (v8 : Int32) (v9 : Int32) (M : zMem) : zRES :=
  if (16 : Int32) ≤ v2 then
    fL_law_B546 Ls xs N again65 v2 v3 v4 v5 v6 v7 v8 v9 M
  else
    if v2 = 0 then
      fL_law_B528 Ls xs N again65 v2 v3 v5 v6 v7 v8 v9 M
    else
      zbl (fL_low N v7 4 M) fun r114 M115 =>
      if r114 = 0 then
        fL_law_B528 Ls xs N again65 v2 v3 v5 v6 v7 v8 v9 M115
      else
        fL_law_B546 Ls xs N again65 v2 v3 v4 v5 v6 v7 v8 v9 M115
def fL_law_B497 (Ls : Nat) (xs : Nat → Int32) (N : Nat) (again65 : Int32 → Int32 → Int32 → Int32 → Int32 → zMem → zRES) (v2 : Int32) (v3 : Int32) (v5 : Int32) (v6 : Int32) (v8 : Int32) (v9 : Int32) (s0 : Int32) (M : zMem) : zRES :=
  fL_law_B1019 Ls xs N again65 v2 v3 s0 v5 v6 v8 v9 M
def fL_law_B496 (Ls : Nat) (xs : Nat → Int32) (N : Nat) (again65 : Int32 → Int32 → Int32 → Int32 → Int32 → zMem → zRES) (v2 : Int32) (v3 : Int32) (v5 : Int32) (v6 : Int32) (v8 : Int32) (v9 : Int32) (M : zMem) : zRES :=
  fL_law_B497 Ls xs N again65 v2 v3 v5 v6 v8 v9 0 M
def fL_law_B475 (Ls : Nat) (xs : Nat → Int32) (N : Nat) (again65 : Int32 → Int32 → Int32 → Int32 → Int32 → zMem → zRES) (v2 : Int32) (v3 : Int32) (v5 : Int32) (v6 : Int32) (v8 : Int32) (v9 : Int32) (s1 : Int32) (M : zMem) : zRES :=
  zbl (fX7_part N s1 M) fun r106 M107 =>
  if r106 < 0 then
    fL_law_B496 Ls xs N again65 v2 v3 v5 v6 v8 v9 M107
  else
    zbl (fX7_reach N v8 v8 M107) fun r109 M110 =>
    if r109 = 0 then
      fL_law_B496 Ls xs N again65 v2 v3 v5 v6 v8 v9 M110
    else
      fL_law_B497 Ls xs N again65 v2 v3 v5 v6 v8 v9 1 M110
def fL_law_B447 (Ls : Nat) (xs : Nat → Int32) (N : Nat) (again65 : Int32 → Int32 → Int32 → Int32 → Int32 → zMem → zRES) (v2 : Int32) (v3 : Int32) (v5 : Int32) (v6 : Int32) (v7 : Int32) (v8 : Int32) (v9 : Int32) (M : zMem) : zRES :=
  zbl (fL_low N v7 32 M) fun r101 M102 =>
  zbl (fL_low N (v7 >>> (9 &&& 31)) 3 M102) fun r103 M104 =>
  if r103 = 0 then
    fL_law_B475 Ls xs N again65 v2 v3 v5 v6 v8 v9 r101 M104
  else
    fL_law_B475 Ls xs N again65 v2 v3 v5 v6 v8 v9 0 M104
def fL_law_B435 (Ls : Nat) (xs : Nat → Int32) (N : Nat) (again65 : Int32 → Int32 → Int32 → Int32 → Int32 → zMem → zRES) (v2 : Int32) (v3 : Int32) (v5 : Int32) (v6 : Int32) (v8 : Int32) (v9 : Int32) (s0 : Int32) (M : zMem) : zRES :=
  fL_law_B1019 Ls xs N again65 v2 v3 s0 v5 v6 v8 v9 M
def fL_law_B434 (Ls : Nat) (xs : Nat → Int32) (N : Nat) (again65 : Int32 → Int32 → Int32 → Int32 → Int32 → zMem → zRES) (v2 : Int32) (v3 : Int32) (v5 : Int32) (v6 : Int32) (v8 : Int32) (v9 : Int32) (M : zMem) : zRES :=
  fL_law_B435 Ls xs N again65 v2 v3 v5 v6 v8 v9 0 M
def fL_law_B430 (Ls : Nat) (xs : Nat → Int32) (N : Nat) (again65 : Int32 → Int32 → Int32 → Int32 → Int32 → zMem → zRES) (v2 : Int32) (v3 : Int32) (v5 : Int32) (v6 : Int32) (v8 : Int32) (v9 : Int32) (M : zMem) : zRES :=
  fL_law_B435 Ls xs N again65 v2 v3 v5 v6 v8 v9 1 M
def fL_law_B389 (Ls : Nat) (xs : Nat → Int32) (N : Nat) (again65 : Int32 → Int32 → Int32 → Int32 → Int32 → zMem → zRES) (v2 : Int32) (v3 : Int32) (v5 : Int32) (v6 : Int32) (v8 : Int32) (v9 : Int32) (M : zMem) : zRES :=
  zbl (fL_tell N v8 v9 M) fun r88 M89 =>
  if r88 < 0 then
    fL_law_B430 Ls xs N again65 v2 v3 v5 v6 v8 v9 M89
  else
    zbl (fX7_entries N v9 M89) fun r92 M93 =>
    zbl (fX7_entries N v8 M93) fun r94 M95 =>
    if r92 < r94 then
      fL_law_B434 Ls xs N again65 v2 v3 v5 v6 v8 v9 M95
    else
      zbl (fL_tell N v8 v9 M95) fun r97 M98 =>
      if r97 = 0 then
        fL_law_B430 Ls xs N again65 v2 v3 v5 v6 v8 v9 M98
      else
        fL_law_B434 Ls xs N again65 v2 v3 v5 v6 v8 v9 M98
def fL_law_B377 (Ls : Nat) (xs : Nat → Int32) (N : Nat) (again65 : Int32 → Int32 → Int32 → Int32 → Int32 → zMem → zRES) (v2 : Int32) (v3 : Int32) (v5 : Int32) (v6 : Int32) (v8 : Int32) (v9 : Int32) (s0 : Int32) (M : zMem) : zRES :=
  fL_law_B1019 Ls xs N again65 v2 v3 s0 v5 v6 v8 v9 M
def fL_law_B376 (Ls : Nat) (xs : Nat → Int32) (N : Nat) (again65 : Int32 → Int32 → Int32 → Int32 → Int32 → zMem → zRES) (v2 : Int32) (v3 : Int32) (v5 : Int32) (v6 : Int32) (v8 : Int32) (v9 : Int32) (M : zMem) : zRES :=
  fL_law_B377 Ls xs N again65 v2 v3 v5 v6 v8 v9 0 M
def fL_law_B267 (Ls : Nat) (xs : Nat → Int32) (N : Nat) (again65 : Int32 → Int32 → Int32 → Int32 → Int32 → zMem → zRES) (v2 : Int32) (v3 : Int32) (v5 : Int32) (v6 : Int32) (v7 : Int32) (v8 : Int32) (v9 : Int32) (M : zMem) : zRES :=
  zbl (fX7_versions N M) fun r64 M65 =>
  zbl (fL_low N v7 2 M65) fun r66 M67 =>
  zbl (fL_low N (v7 >>> (5 &&& 31)) 3 M67) fun r68 M69 =>
  zbl (fL_low N (v7 >>> (8 &&& 31)) 40 M69) fun r70 M71 =>
  zbl (fL_propose N v8 r66 ((1 : Int32) + r68) ((1 : Int32) + r70) M71) fun r72 M73 =>
  if r72 = (-3) then
    zbl (fX7_versions N M73) fun r76 M77 =>
    if r76 = r64 then
      fL_law_B377 Ls xs N again65 v2 v3 v5 v6 v8 v9 1 M77
    else
      fL_law_B377 Ls xs N again65 v2 v3 v5 v6 v8 v9 0 M77
  else
    if r72 = r64 then
      zbl (fX7_entries N v8 M73) fun r80 M81 =>
      zbl (fX7_versionAt N v8 (r80 - 1) M81) fun r82 M83 =>
      if r82 = r72 then
        zbl (fX7_holders N r72 M83) fun r85 M86 =>
        if r85 = ((1 : Int32) <<< (v8 &&& 31)) then
          fL_law_B377 Ls xs N again65 v2 v3 v5 v6 v8 v9 1 M86
        else
          fL_law_B376 Ls xs N again65 v2 v3 v5 v6 v8 v9 M86
      else
        fL_law_B376 Ls xs N again65 v2 v3 v5 v6 v8 v9 M83
    else
      fL_law_B376 Ls xs N again65 v2 v3 v5 v6 v8 v9 M73
def fL_law_B255 (Ls : Nat) (xs : Nat → Int32) (N : Nat) (again65 : Int32 → Int32 → Int32 → Int32 → Int32 → zMem → zRES) (v2 : Int32) (v3 : Int32) (v5 : Int32) (v6 : Int32) (v8 : Int32) (v9 : Int32) (s0 : Int32) (M : zMem) : zRES :=
  fL_law_B1019 Ls xs N again65 v2 v3 s0 v5 v6 v8 v9 M
def fL_law_B254 (Ls : Nat) (xs : Nat → Int32) (N : Nat) (again65 : Int32 → Int32 → Int32 → Int32 → Int32 → zMem → zRES) (v2 : Int32) (v3 : Int32) (v5 : Int32) (v6 : Int32) (v8 : Int32) (v9 : Int32) (M : zMem) : zRES :=
  fL_law_B255 Ls xs N again65 v2 v3 v5 v6 v8 v9 0 M
def fL_law_B250 (Ls : Nat) (xs : Nat → Int32) (N : Nat) (again65 : Int32 → Int32 → Int32 → Int32 → Int32 → zMem → zRES) (v2 : Int32) (v3 : Int32) (v5 : Int32) (v6 : Int32) (v8 : Int32) (v9 : Int32) (M : zMem) : zRES :=
  fL_law_B255 Ls xs N again65 v2 v3 v5 v6 v8 v9 1 M
def fL_law_B195 (Ls : Nat) (xs : Nat → Int32) (N : Nat) (again65 : Int32 → Int32 → Int32 → Int32 → Int32 → zMem → zRES) (v2 : Int32) (v3 : Int32) (v5 : Int32) (v6 : Int32) (v8 : Int32) (v9 : Int32) (M : zMem) : zRES :=
  zbl (fX7_role N v9 M) fun r49 M50 =>
  zbl (fL_vote N v8 v9 M50) fun r51 M52 =>
  if r51 = 0 then
    fL_law_B250 Ls xs N again65 v2 v3 v5 v6 v8 v9 M52
  else
    zbl (fX7_votedFor N v8 M52) fun r55 M56 =>
    if r55 = v9 then
      zbl (fX7_term N v8 M56) fun r58 M59 =>
      zbl (fX7_term N v9 M59) fun r60 M61 =>
      if r58 = r60 then
        if r49 = 1 then
          fL_law_B250 Ls xs N again65 v2 v3 v5 v6 v8 v9 M61
        else
          fL_law_B254 Ls xs N again65 v2 v3 v5 v6 v8 v9 M61
      else
        fL_law_B254 Ls xs N again65 v2 v3 v5 v6 v8 v9 M61
    else
      fL_law_B254 Ls xs N again65 v2 v3 v5 v6 v8 v9 M56
def fL_law_B180 (Ls : Nat) (xs : Nat → Int32) (N : Nat) (again65 : Int32 → Int32 → Int32 → Int32 → Int32 → zMem → zRES) (v2 : Int32) (v3 : Int32) (v5 : Int32) (v6 : Int32) (v8 : Int32) (v9 : Int32) (s0 : Int32) (M : zMem) : zRES :=
  fL_law_B1019 Ls xs N again65 v2 (v3 + 1) s0 v5 v6 v8 v9 M
def fL_law_B179 (Ls : Nat) (xs : Nat → Int32) (N : Nat) (again65 : Int32 → Int32 → Int32 → Int32 → Int32 → zMem → zRES) (v2 : Int32) (v3 : Int32) (v5 : Int32) (v6 : Int32) (v8 : Int32) (v9 : Int32) (M : zMem) : zRES :=
  fL_law_B180 Ls xs N again65 v2 v3 v5 v6 v8 v9 0 M
def fL_law_B133 (Ls : Nat) (xs : Nat → Int32) (N : Nat) (again65 : Int32 → Int32 → Int32 → Int32 → Int32 → zMem → zRES) (v2 : Int32) (v3 : Int32) (v5 : Int32) (v6 : Int32) (v8 : Int32) (v9 : Int32) (M : zMem) : zRES :=
  zbl (fX7_term N v8 M) fun r38 M39 =>
  zbl (fX7_stand N v8 M39) fun r40 M41 =>
  if r40 = (r38 + 1) then
    zbl (fX7_role N v8 M41) fun r43 M44 =>
    if r43 = 1 then
      zbl (fX7_votedFor N v8 M44) fun r46 M47 =>
      if r46 = v8 then
        fL_law_B180 Ls xs N again65 v2 v3 v5 v6 v8 v9 1 M47
      else
        fL_law_B179 Ls xs N again65 v2 v3 v5 v6 v8 v9 M47
    else
      fL_law_B179 Ls xs N again65 v2 v3 v5 v6 v8 v9 M44
  else
    fL_law_B179 Ls xs N again65 v2 v3 v5 v6 v8 v9 M41
def fL_law_B127 (Ls : Nat) (xs : Nat → Int32) (N : Nat) (again65 : Int32 → Int32 → Int32 → Int32 → Int32 → zMem → zRES) (v2 : Int32) (v3 : Int32) (v4 : Int32) (v5 : Int32) (v6 : Int32) (v7 : Int32) (v8 : Int32) (v9 : Int32) (v10 : Int32) (M : zMem) : zRES :=
  if (4 : Int32) ≤ v10 then
    if (12 : Int32) ≤ v10 then
      if (15 : Int32) ≤ v10 then
        if (20 : Int32) ≤ v10 then
          if (21 : Int32) ≤ v10 then
            if (23 : Int32) ≤ v10 then
              if (25 : Int32) ≤ v10 then
                if (26 : Int32) ≤ v10 then
                  if (27 : Int32) ≤ v10 then
                    fL_law_B912 Ls xs N again65 v2 v3 v4 v5 v6 v7 v8 v9 M
                  else
                    fL_law_B801 Ls xs N again65 v2 v3 v4 v5 v6 v7 v8 v9 M
                else
                  fL_law_B746 Ls xs N again65 v2 v3 v5 v6 v7 v8 v9 M
              else
                fL_law_B651 Ls xs N again65 v2 v3 v5 v6 v7 v8 v9 M
            else
              fL_law_B509 Ls xs N again65 v2 v3 v4 v5 v6 v7 v8 v9 M
          else
            fL_law_B447 Ls xs N again65 v2 v3 v5 v6 v7 v8 v9 M
        else
          fL_law_B389 Ls xs N again65 v2 v3 v5 v6 v8 v9 M
      else
        fL_law_B267 Ls xs N again65 v2 v3 v5 v6 v7 v8 v9 M
    else
      fL_law_B195 Ls xs N again65 v2 v3 v5 v6 v8 v9 M
  else
    fL_law_B133 Ls xs N again65 v2 v3 v5 v6 v8 v9 M
def fL_law_B65 (Ls : Nat) (xs : Nat → Int32) (N : Nat) : Nat → Int32 → Int32 → Int32 → Int32 → Int32 → zMem → zRES
  | 0, _, _, _, _, _, _ => none
  | n + 1, v2, v3, v4, v5, v6, M =>
  if v5 ≤ v6 then
    fL_law_B1077 Ls xs N v3 v4 M
  else
    if v4 = 0 then
      fL_law_B1077 Ls xs N v3 v4 M
    else
      zbl (fL_cell Ls xs N ((1 : Int32) + v6) M) fun r20 M21 =>
      zbl (fL_low N (r20 >>> (3 &&& 31)) 5 M21) fun r22 M23 =>
      zbl (fL_low N (r20 >>> (6 &&& 31)) 4 M23) fun r24 M25 =>
      zv (((r22 + 1) + r24) - ((r22 + 1) + r24) / 5 * 5) fun x26 =>
      zbl (fL_low N (r20 >>> (20 &&& 31)) 28 M25) fun r27 M28 =>
      fL_law_B127 Ls xs N (fL_law_B65 Ls xs N n) v2 v3 v4 v5 v6 r20 r22 x26 r27 M28
def fL_law_B45 (Ls : Nat) (xs : Nat → Int32) (N : Nat) (v2 : Int32) (v3 : Int32) (s0 : Int32) (M : zMem) : zRES :=
  zbl (fL_cell Ls xs N 0 M) fun r13 M14 =>
  zbl (fL_low N r13 55 M14) fun r15 M16 =>
  zv ((6 : Int32) + r15) fun x17 =>
  fL_law_B65 Ls xs N 61 v2 v3 s0 x17 0 M16
def fL_law_B44 (Ls : Nat) (xs : Nat → Int32) (N : Nat) (v2 : Int32) (v3 : Int32) (M : zMem) : zRES :=
  fL_law_B45 Ls xs N v2 v3 0 M
def fL_law_B8 (Ls : Nat) (xs : Nat → Int32) (N : Nat) (M : zMem) : zRES :=
  zbl (fL_roles N M) fun r1 M2 =>
  if r1 = 0 then
    fL_law_B44 Ls xs N 0 0 M2
  else
    zbl (fL_batches N M2) fun r4 M5 =>
    if r4 = 0 then
      fL_law_B44 Ls xs N 0 0 M5
    else
      zbl (fX7_recalls N M5) fun r7 M8 =>
      if r7 = 0 then
        zbl (fX7_stopped N M8) fun r10 M11 =>
        if r10 = 0 then
          fL_law_B45 Ls xs N 0 0 1 M11
        else
          fL_law_B44 Ls xs N 0 0 M11
      else
        fL_law_B44 Ls xs N 0 0 M8
