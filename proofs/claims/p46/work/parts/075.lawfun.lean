def fL_law_B1214 (Ls : Nat) (xs : Nat → Int32) (N : Nat) (v3 : Int32) (v4 : Int32) (v6 : Int32) (M : zMem) : zRES :=
  if v4 = 0 then
    none
  else
    zbl (fL_batches N M) fun r267 M268 =>
    if r267 = 0 then
      none
    else
      zbl (fX7_recalls N M268) fun r270 M271 =>
      if v6 < r270 then
        none
      else
        if v3 < 0 then
          none
        else
          some (.inl 1, M271)
def fL_law_B1206 (Ls : Nat) (xs : Nat → Int32) (N : Nat) (again1134 : Int32 → Int32 → Int32 → Int32 → zMem → zRES) (v3 : Int32) (v6 : Int32) (v7 : Int32) (s0 : Int32) (M : zMem) : zRES :=
  again1134 v3 s0 v6 (v7 + 1) M
def fL_law_B1205 (Ls : Nat) (xs : Nat → Int32) (N : Nat) (again1134 : Int32 → Int32 → Int32 → Int32 → zMem → zRES) (v3 : Int32) (v6 : Int32) (v7 : Int32) (M : zMem) : zRES :=
  fL_law_B1206 Ls xs N again1134 v3 v6 v7 0 M
def fL_law_B1188 (Ls : Nat) (xs : Nat → Int32) (N : Nat) (again1134 : Int32 → Int32 → Int32 → Int32 → zMem → zRES) (v3 : Int32) (v6 : Int32) (v7 : Int32) (M : zMem) : zRES :=
  zbl (fX7_recallOf N v7 M) fun r261 M262 =>
  zbl (fX7_batches N M262) fun r263 M264 =>
  if r263 ≤ r261 then
    fL_law_B1205 Ls xs N again1134 v3 v6 v7 M264
  else
    fL_law_B1206 Ls xs N again1134 v3 v6 v7 1 M264
def fL_law_B1134 (Ls : Nat) (xs : Nat → Int32) (N : Nat) : Nat → Int32 → Int32 → Int32 → Int32 → zMem → zRES
  | 0, _, _, _, _, _ => none
  | n + 1, v3, v4, v6, v7, M =>
  zbl (fX7_recalls N M) fun r245 M246 =>
  if r245 ≤ v7 then
    fL_law_B1214 Ls xs N v3 v4 v6 M246
  else
    if v4 = 0 then
      fL_law_B1214 Ls xs N v3 v4 v6 M246
    else
      zbl (fX7_calledBack N v7 M246) fun r249 M250 =>
      zv (v6 + r249) fun x251 =>
      zbl (fX7_calledBack N v7 M250) fun r252 M253 =>
      if r252 ≤ 0 then
        fL_law_B1205 Ls xs N (fL_law_B1134 Ls xs N n) v3 x251 v7 M253
      else
        zbl (fX7_why N v7 M253) fun r255 M256 =>
        if r255 = 1 then
          fL_law_B1188 Ls xs N (fL_law_B1134 Ls xs N n) v3 x251 v7 M256
        else
          zbl (fX7_why N v7 M256) fun r258 M259 =>
          if r258 = 2 then
            fL_law_B1188 Ls xs N (fL_law_B1134 Ls xs N n) v3 x251 v7 M259
          else
            fL_law_B1205 Ls xs N (fL_law_B1134 Ls xs N n) v3 x251 v7 M259
def fL_law_B1128 (Ls : Nat) (xs : Nat → Int32) (N : Nat) (v3 : Int32) (v4 : Int32) (M : zMem) : zRES :=
  fL_law_B1134 Ls xs N N v3 v4 0 0 M
def fL_law_B1120 (Ls : Nat) (xs : Nat → Int32) (N : Nat) (again1080 : Int32 → Int32 → Int32 → zMem → zRES) (v3 : Int32) (v6 : Int32) (s0 : Int32) (M : zMem) : zRES :=
  again1080 v3 s0 (v6 + 1) M
def fL_law_B1080 (Ls : Nat) (xs : Nat → Int32) (N : Nat) : Nat → Int32 → Int32 → Int32 → zMem → zRES
  | 0, _, _, _, _ => none
  | n + 1, v3, v4, v6, M =>
  zbl (fX7_batches N M) fun r235 M236 =>
  if r235 ≤ v6 then
    fL_law_B1128 Ls xs N v3 v4 M236
  else
    if (2 : Int32) ≤ v6 then
      fL_law_B1128 Ls xs N v3 v4 M236
    else
      if v4 = 0 then
        fL_law_B1128 Ls xs N v3 v4 M236
      else
        zbl (fX7_barred N v6 M236) fun r240 M241 =>
        zbl (fX7_barredAnew N v6 M241) fun r242 M243 =>
        if r240 = r242 then
          fL_law_B1120 Ls xs N (fL_law_B1080 Ls xs N n) v3 v6 1 M243
        else
          fL_law_B1120 Ls xs N (fL_law_B1080 Ls xs N n) v3 v6 0 M243
def fL_law_B1077 (Ls : Nat) (xs : Nat → Int32) (N : Nat) (v3 : Int32) (v4 : Int32) (M : zMem) : zRES :=
  fL_law_B1080 Ls xs N N v3 v4 0 M
def fL_law_B1069 (Ls : Nat) (xs : Nat → Int32) (N : Nat) (again65 : Int32 → Int32 → Int32 → Int32 → Int32 → zMem → zRES) (v2 : Int32) (v3 : Int32) (v5 : Int32) (v6 : Int32) (s0 : Int32) (M : zMem) : zRES :=
  again65 v2 v3 s0 v5 (v6 + 1) M
def fL_law_B1068 (Ls : Nat) (xs : Nat → Int32) (N : Nat) (again65 : Int32 → Int32 → Int32 → Int32 → Int32 → zMem → zRES) (v2 : Int32) (v3 : Int32) (v5 : Int32) (v6 : Int32) (M : zMem) : zRES :=
  fL_law_B1069 Ls xs N again65 v2 v3 v5 v6 0 M
def fL_law_B1064 (Ls : Nat) (xs : Nat → Int32) (N : Nat) (again65 : Int32 → Int32 → Int32 → Int32 → Int32 → zMem → zRES) (v2 : Int32) (v3 : Int32) (v5 : Int32) (v6 : Int32) (M : zMem) : zRES :=
  fL_law_B1069 Ls xs N again65 v2 v3 v5 v6 1 M
def fL_law_B1019 (Ls : Nat) (xs : Nat → Int32) (N : Nat) (again65 : Int32 → Int32 → Int32 → Int32 → Int32 → zMem → zRES) (v2 : Int32) (v3 : Int32) (v4 : Int32) (v5 : Int32) (v6 : Int32) (v8 : Int32) (v9 : Int32) (M : zMem) : zRES :=
  if v4 = 0 then
    fL_law_B1068 Ls xs N again65 v2 v3 v5 v6 M
  else
    zbl (fL_roles N M) fun r222 M223 =>
    if r222 = 0 then
      fL_law_B1068 Ls xs N again65 v2 v3 v5 v6 M223
    else
      zbl (fL_logs N v8 M223) fun r225 M226 =>
      if r225 = 0 then
        fL_law_B1068 Ls xs N again65 v2 v3 v5 v6 M226
      else
        zbl (fL_logs N v9 M226) fun r228 M229 =>
        if r228 = 0 then
          fL_law_B1068 Ls xs N again65 v2 v3 v5 v6 M229
        else
          if (v6 - v6 / 4 * 4) < 3 then
            fL_law_B1064 Ls xs N again65 v2 v3 v5 v6 M229
          else
            zbl (fL_batches N M229) fun r232 M233 =>
            if r232 = 0 then
              fL_law_B1068 Ls xs N again65 v2 v3 v5 v6 M233
            else
              fL_law_B1064 Ls xs N again65 v2 v3 v5 v6 M233
def fL_law_B1011 (Ls : Nat) (xs : Nat → Int32) (N : Nat) (again65 : Int32 → Int32 → Int32 → Int32 → Int32 → zMem → zRES) (again972 : Int32 → Int32 → Int32 → Int32 → Int32 → Int32 → Int32 → Int32 → Int32 → zMem → zRES) (v2 : Int32) (v3 : Int32) (v5 : Int32) (v6 : Int32) (v8 : Int32) (v9 : Int32) (v11 : Int32) (v13 : Int32) (s0 : Int32) (M : zMem) : zRES :=
  again972 v2 v3 s0 v5 v6 v8 v9 v11 (v13 + 1) M
def fL_law_B972 (Ls : Nat) (xs : Nat → Int32) (N : Nat) (again65 : Int32 → Int32 → Int32 → Int32 → Int32 → zMem → zRES) : Nat → Int32 → Int32 → Int32 → Int32 → Int32 → Int32 → Int32 → Int32 → Int32 → zMem → zRES
  | 0, _, _, _, _, _, _, _, _, _, _ => none
  | n + 1, v2, v3, v4, v5, v6, v8, v9, v11, v13, M =>
  zbl (fX7_traced N v11 M) fun r212 M213 =>
  if r212 ≤ v13 then
    fL_law_B1019 Ls xs N again65 v2 v3 v4 v5 v6 v8 v9 M213
  else
    if v4 = 0 then
      fL_law_B1019 Ls xs N again65 v2 v3 v4 v5 v6 v8 v9 M213
    else
      zbl (fX7_tracedAt N v11 v13 M213) fun r216 M217 =>
      zbl (fX7_barred N r216 M217) fun r218 M219 =>
      if (r218 &&& 2) = 2 then
        fL_law_B1011 Ls xs N again65 (fL_law_B972 Ls xs N again65 n) v2 v3 v5 v6 v8 v9 v11 v13 1 M219
      else
        fL_law_B1011 Ls xs N again65 (fL_law_B972 Ls xs N again65 n) v2 v3 v5 v6 v8 v9 v11 v13 0 M219
def fL_law_B967 (Ls : Nat) (xs : Nat → Int32) (N : Nat) (again65 : Int32 → Int32 → Int32 → Int32 → Int32 → zMem → zRES) (v2 : Int32) (v3 : Int32) (v5 : Int32) (v6 : Int32) (v8 : Int32) (v9 : Int32) (v11 : Int32) (s0 : Int32) (M : zMem) : zRES :=
  fL_law_B972 Ls xs N again65 N v2 v3 s0 v5 v6 v8 v9 v11 0 M
def fL_law_B966 (Ls : Nat) (xs : Nat → Int32) (N : Nat) (again65 : Int32 → Int32 → Int32 → Int32 → Int32 → zMem → zRES) (v2 : Int32) (v3 : Int32) (v5 : Int32) (v6 : Int32) (v8 : Int32) (v9 : Int32) (v11 : Int32) (M : zMem) : zRES :=
  fL_law_B967 Ls xs N again65 v2 v3 v5 v6 v8 v9 v11 0 M
def fL_law_B912 (Ls : Nat) (xs : Nat → Int32) (N : Nat) (again65 : Int32 → Int32 → Int32 → Int32 → Int32 → zMem → zRES) (v2 : Int32) (v3 : Int32) (v4 : Int32) (v5 : Int32) (v6 : Int32) (v7 : Int32) (v8 : Int32) (v9 : Int32) (M : zMem) : zRES :=
  if v2 ≤ 0 then
    fL_law_B1019 Ls xs N again65 v2 v3 v4 v5 v6 v8 v9 M
  else
    zbl (fL_low N v7 3 M) fun r199 M200 =>
    if r199 = 0 then
      zbl (fL_low N (v7 >>> (9 &&& 31)) v2 M200) fun r202 M203 =>
      zbl (fL_condemn N r202 M203) fun r204 M205 =>
      if r204 < (-3) then
        fL_law_B966 Ls xs N again65 v2 v3 v5 v6 v8 v9 r202 M205
      else
        zbl (fL_condemn N r202 M205) fun r208 M209 =>
        if r208 = (-3) then
          fL_law_B967 Ls xs N again65 v2 v3 v5 v6 v8 v9 r202 1 M209
        else
          fL_law_B966 Ls xs N again65 v2 v3 v5 v6 v8 v9 r202 M209
    else
      fL_law_B1019 Ls xs N again65 v2 v3 v4 v5 v6 v8 v9 M200
def fL_law_B907 (Ls : Nat) (xs : Nat → Int32) (N : Nat) (again65 : Int32 → Int32 → Int32 → Int32 → Int32 → zMem → zRES) (v2 : Int32) (v3 : Int32) (v5 : Int32) (v6 : Int32) (v8 : Int32) (v9 : Int32) (s0 : Int32) (M : zMem) : zRES :=
  fL_law_B1019 Ls xs N again65 v2 v3 s0 v5 v6 v8 v9 M
def fL_law_B906 (Ls : Nat) (xs : Nat → Int32) (N : Nat) (again65 : Int32 → Int32 → Int32 → Int32 → Int32 → zMem → zRES) (v2 : Int32) (v3 : Int32) (v5 : Int32) (v6 : Int32) (v8 : Int32) (v9 : Int32) (M : zMem) : zRES :=
  fL_law_B907 Ls xs N again65 v2 v3 v5 v6 v8 v9 0 M
def fL_law_B789 (Ls : Nat) (xs : Nat → Int32) (N : Nat) (again65 : Int32 → Int32 → Int32 → Int32 → Int32 → zMem → zRES) (v2 : Int32) (v3 : Int32) (v5 : Int32) (v6 : Int32) (v8 : Int32) (v9 : Int32) (s0 : Int32) (M : zMem) : zRES :=
  fL_law_B1019 Ls xs N again65 v2 v3 s0 v5 v6 v8 v9 M
def fL_law_B784 (Ls : Nat) (xs : Nat → Int32) (N : Nat) (again65 : Int32 → Int32 → Int32 → Int32 → Int32 → zMem → zRES) (v2 : Int32) (v3 : Int32) (v5 : Int32) (v6 : Int32) (v8 : Int32) (v9 : Int32) (M : zMem) : zRES :=
  fL_law_B789 Ls xs N again65 v2 v3 v5 v6 v8 v9 1 M
def fL_law_B734 (Ls : Nat) (xs : Nat → Int32) (N : Nat) (again65 : Int32 → Int32 → Int32 → Int32 → Int32 → zMem → zRES) (v2 : Int32) (v3 : Int32) (v5 : Int32) (v6 : Int32) (v8 : Int32) (v9 : Int32) (s0 : Int32) (M : zMem) : zRES :=
  fL_law_B1019 Ls xs N again65 v2 v3 s0 v5 v6 v8 v9 M
def fL_law_B733 (Ls : Nat) (xs : Nat → Int32) (N : Nat) (again65 : Int32 → Int32 → Int32 → Int32 → Int32 → zMem → zRES) (v2 : Int32) (v3 : Int32) (v5 : Int32) (v6 : Int32) (v8 : Int32) (v9 : Int32) (M : zMem) : zRES :=
  fL_law_B734 Ls xs N again65 v2 v3 v5 v6 v8 v9 0 M
def fL_law_B729 (Ls : Nat) (xs : Nat → Int32) (N : Nat) (again65 : Int32 → Int32 → Int32 → Int32 → Int32 → zMem → zRES) (v2 : Int32) (v3 : Int32) (v5 : Int32) (v6 : Int32) (v8 : Int32) (v9 : Int32) (M : zMem) : zRES :=
  fL_law_B734 Ls xs N again65 v2 v3 v5 v6 v8 v9 1 M
def fL_law_B639 (Ls : Nat) (xs : Nat → Int32) (N : Nat) (again65 : Int32 → Int32 → Int32 → Int32 → Int32 → zMem → zRES) (v2 : Int32) (v3 : Int32) (v5 : Int32) (v6 : Int32) (v8 : Int32) (v9 : Int32) (s0 : Int32) (M : zMem) : zRES :=
  fL_law_B1019 Ls xs N again65 v2 v3 s0 v5 v6 v8 v9 M
def fL_law_B638 (Ls : Nat) (xs : Nat → Int32) (N : Nat) (again65 : Int32 → Int32 → Int32 → Int32 → Int32 → zMem → zRES) (v2 : Int32) (v3 : Int32) (v5 : Int32) (v6 : Int32) (v8 : Int32) (v9 : Int32) (M : zMem) : zRES :=
  fL_law_B639 Ls xs N again65 v2 v3 v5 v6 v8 v9 0 M
def fL_law_B634 (Ls : Nat) (xs : Nat → Int32) (N : Nat) (again65 : Int32 → Int32 → Int32 → Int32 → Int32 → zMem → zRES) (v2 : Int32) (v3 : Int32) (v5 : Int32) (v6 : Int32) (v8 : Int32) (v9 : Int32) (M : zMem) : zRES :=
  fL_law_B639 Ls xs N again65 v2 v3 v5 v6 v8 v9 1 M
def fL_law_B546 (Ls : Nat) (xs : Nat → Int32) (N : Nat) (again65 : Int32 → Int32 → Int32 → Int32 → Int32 → zMem → zRES) (v2 : Int32) (v3 : Int32) (v4 : Int32) (v5 : Int32) (v6 : Int32) (v7 : Int32) (v8 : Int32) (v9 : Int32) (M : zMem) : zRES :=
  zbl (fX7_store N v8 M) fun r178 M179 =>
  zbl (fL_low N (v7 >>> (9 &&& 31)) v2 M179) fun r180 M181 =>
  zbl (fL_low N v7 9 M181) fun r182 M183 =>
  zbl (fL_deliver N v8 r180 ((1 : Int32) + r182) M183) fun r184 M185 =>
  if v4 = 0 then
    fL_law_B638 Ls xs N again65 v2 v3 v5 v6 v8 v9 M185
  else
    if r184 = (-3) then
      zbl (fX7_store N v8 M185) fun r189 M190 =>
      if r189 = r178 then
        fL_law_B634 Ls xs N again65 v2 v3 v5 v6 v8 v9 M190
      else
        fL_law_B638 Ls xs N again65 v2 v3 v5 v6 v8 v9 M190
    else
      zbl (fX7_store N v8 M185) fun r192 M193 =>
      if r192 = r184 then
        zbl (fL_low N v7 9 M193) fun r195 M196 =>
        if r184 = ((r178 + 1) + r195) then
          fL_law_B634 Ls xs N again65 v2 v3 v5 v6 v8 v9 M196
        else
          fL_law_B638 Ls xs N again65 v2 v3 v5 v6 v8 v9 M196
      else
        fL_law_B638 Ls xs N again65 v2 v3 v5 v6 v8 v9 M193
def fL_law_B541 (Ls : Nat) (xs : Nat → Int32) (N : Nat) (again65 : Int32 → Int32 → Int32 → Int32 → Int32 → zMem → zRES) (v2 : Int32) (v3 : Int32) (v5 : Int32) (v6 : Int32) (v7 : Int32) (v8 : Int32) (v9 : Int32) (s0 : Int32) (M : zMem) : zRES :=
  fL_law_B546 Ls xs N again65 (v2 + 1) v3 s0 v5 v6 v7 v8 v9 M
def fL_law_B528 (Ls : Nat) (xs : Nat → Int32) (N : Nat) (again65 : Int32 → Int32 → Int32 → Int32 → Int32 → zMem → zRES) (v2 : Int32) (v3 : Int32) (v5 : Int32) (v6 : Int32) (v7 : Int32) (v8 : Int32) (v9 : Int32) (M : zMem) : zRES :=
  zbl (fX7_addLot N M) fun r175 M176 =>
  if r175 = v2 then
    fL_law_B541 Ls xs N again65 v2 v3 v5 v6 v7 v8 v9 1 M176
  else
    fL_law_B541 Ls xs N again65 v2 v3 v5 v6 v7 v8 v9 0 M176
def fL_law_B497 (Ls : Nat) (xs : Nat → Int32) (N : Nat) (again65 : Int32 → Int32 → Int32 → Int32 → Int32 → zMem → zRES) (v2 : Int32) (v3 : Int32) (v5 : Int32) (v6 : Int32) (v8 : Int32) (v9 : Int32) (s0 : Int32) (M : zMem) : zRES :=
  fL_law_B1019 Ls xs N again65 v2 v3 s0 v5 v6 v8 v9 M
def fL_law_B496 (Ls : Nat) (xs : Nat → Int32) (N : Nat) (again65 : Int32 → Int32 → Int32 → Int32 → Int32 → zMem → zRES) (v2 : Int32) (v3 : Int32) (v5 : Int32) (v6 : Int32) (v8 : Int32) (v9 : Int32) (M : zMem) : zRES :=
  fL_law_B497 Ls xs N again65 v2 v3 v5 v6 v8 v9 0 M
def fL_law_B475 (Ls : Nat) (xs : Nat → Int32) (N : Nat) (again65 : Int32 → Int32 → Int32 → Int32 → Int32 → zMem → zRES) (v2 : Int32) (v3 : Int32) (v5 : Int32) (v6 : Int32) (v8 : Int32) (v9 : Int32) (s1 : Int32) (M : zMem) : zRES :=
  zbl (fX7_part N s1 M) fun r169 M170 =>
  if r169 < 0 then
    fL_law_B496 Ls xs N again65 v2 v3 v5 v6 v8 v9 M170
  else
    zbl (fX7_reach N v8 v8 M170) fun r172 M173 =>
    if r172 = 0 then
      fL_law_B496 Ls xs N again65 v2 v3 v5 v6 v8 v9 M173
    else
      fL_law_B497 Ls xs N again65 v2 v3 v5 v6 v8 v9 1 M173
def fL_law_B435 (Ls : Nat) (xs : Nat → Int32) (N : Nat) (again65 : Int32 → Int32 → Int32 → Int32 → Int32 → zMem → zRES) (v2 : Int32) (v3 : Int32) (v5 : Int32) (v6 : Int32) (v8 : Int32) (v9 : Int32) (s0 : Int32) (M : zMem) : zRES :=
  fL_law_B1019 Ls xs N again65 v2 v3 s0 v5 v6 v8 v9 M
def fL_law_B434 (Ls : Nat) (xs : Nat → Int32) (N : Nat) (again65 : Int32 → Int32 → Int32 → Int32 → Int32 → zMem → zRES) (v2 : Int32) (v3 : Int32) (v5 : Int32) (v6 : Int32) (v8 : Int32) (v9 : Int32) (M : zMem) : zRES :=
  fL_law_B435 Ls xs N again65 v2 v3 v5 v6 v8 v9 0 M
def fL_law_B430 (Ls : Nat) (xs : Nat → Int32) (N : Nat) (again65 : Int32 → Int32 → Int32 → Int32 → Int32 → zMem → zRES) (v2 : Int32) (v3 : Int32) (v5 : Int32) (v6 : Int32) (v8 : Int32) (v9 : Int32) (M : zMem) : zRES :=
  fL_law_B435 Ls xs N again65 v2 v3 v5 v6 v8 v9 1 M
def fL_law_B377 (Ls : Nat) (xs : Nat → Int32) (N : Nat) (again65 : Int32 → Int32 → Int32 → Int32 → Int32 → zMem → zRES) (v2 : Int32) (v3 : Int32) (v5 : Int32) (v6 : Int32) (v8 : Int32) (v9 : Int32) (s0 : Int32) (M : zMem) : zRES :=
  fL_law_B1019 Ls xs N again65 v2 v3 s0 v5 v6 v8 v9 M
def fL_law_B376 (Ls : Nat) (xs : Nat → Int32) (N : Nat) (again65 : Int32 → Int32 → Int32 → Int32 → Int32 → zMem → zRES) (v2 : Int32) (v3 : Int32) (v5 : Int32) (v6 : Int32) (v8 : Int32) (v9 : Int32) (M : zMem) : zRES :=
  fL_law_B377 Ls xs N again65 v2 v3 v5 v6 v8 v9 0 M
def fL_law_B255 (Ls : Nat) (xs : Nat → Int32) (N : Nat) (again65 : Int32 → Int32 → Int32 → Int32 → Int32 → zMem → zRES) (v2 : Int32) (v3 : Int32) (v5 : Int32) (v6 : Int32) (v8 : Int32) (v9 : Int32) (s0 : Int32) (M : zMem) : zRES :=
  fL_law_B1019 Ls xs N again65 v2 v3 s0 v5 v6 v8 v9 M
def fL_law_B254 (Ls : Nat) (xs : Nat → Int32) (N : Nat) (again65 : Int32 → Int32 → Int32 → Int32 → Int32 → zMem → zRES) (v2 : Int32) (v3 : Int32) (v5 : Int32) (v6 : Int32) (v8 : Int32) (v9 : Int32) (M : zMem) : zRES :=
  fL_law_B255 Ls xs N again65 v2 v3 v5 v6 v8 v9 0 M
def fL_law_B250 (Ls : Nat) (xs : Nat → Int32) (N : Nat) (again65 : Int32 → Int32 → Int32 → Int32 → Int32 → zMem → zRES) (v2 : Int32) (v3 : Int32) (v5 : Int32) (v6 : Int32) (v8 : Int32) (v9 : Int32) (M : zMem) : zRES :=
  fL_law_B255 Ls xs N again65 v2 v3 v5 v6 v8 v9 1 M
def fL_law_B180 (Ls : Nat) (xs : Nat → Int32) (N : Nat) (again65 : Int32 → Int32 → Int32 → Int32 → Int32 → zMem → zRES) (v2 : Int32) (v3 : Int32) (v5 : Int32) (v6 : Int32) (v8 : Int32) (v9 : Int32) (s0 : Int32) (M : zMem) : zRES :=
  fL_law_B1019 Ls xs N again65 v2 (v3 + 1) s0 v5 v6 v8 v9 M
def fL_law_B179 (Ls : Nat) (xs : Nat → Int32) (N : Nat) (again65 : Int32 → Int32 → Int32 → Int32 → Int32 → zMem → zRES) (v2 : Int32) (v3 : Int32) (v5 : Int32) (v6 : Int32) (v8 : Int32) (v9 : Int32) (M : zMem) : zRES :=
  fL_law_B180 Ls xs N again65 v2 v3 v5 v6 v8 v9 0 M
def fL_law_B65 (Ls : Nat) (xs : Nat → Int32) (N : Nat) : Nat → Int32 → Int32 → Int32 → Int32 → Int32 → zMem → zRES
  | 0, _, _, _, _, _, _ => none
  | n + 1, v2, v3, v4, v5, v6, M =>
  if v5 ≤ v6 then
    fL_law_B1077 Ls xs N v3 v4 M
  else
    if v4 = 0 then
      fL_law_B1077 Ls xs N v3 v4 M
    else
      zbl (fL_cell Ls xs N ((1 : Int32) + v6) M) fun r20 M21 =>
      zbl (fL_low N (r20 >>> (3 &&& 31)) 5 M21) fun r22 M23 =>
      zbl (fL_low N (r20 >>> (6 &&& 31)) 4 M23) fun r24 M25 =>
      zv (((r22 + 1) + r24) - ((r22 + 1) + r24) / 5 * 5) fun x26 =>
      zbl (fL_low N (r20 >>> (20 &&& 31)) 28 M25) fun r27 M28 =>
      if (4 : Int32) ≤ r27 then
        if (12 : Int32) ≤ r27 then
          if (15 : Int32) ≤ r27 then
            if (20 : Int32) ≤ r27 then
              if (21 : Int32) ≤ r27 then
                if (23 : Int32) ≤ r27 then
                  if (25 : Int32) ≤ r27 then
                    if (26 : Int32) ≤ r27 then
                      if (27 : Int32) ≤ r27 then
                        fL_law_B912 Ls xs N (fL_law_B65 Ls xs N n) v2 v3 v4 v5 v6 r20 r22 x26 M28
                      else
                        zbl (fX7_batches N M28) fun r38 M39 =>
                        if r38 ≤ 0 then
                          fL_law_B912 Ls xs N (fL_law_B65 Ls xs N n) v2 v3 v4 v5 v6 r20 r22 x26 M39
                        else
                          zbl (fX7_batches N M39) fun r41 M42 =>
                          zbl (fL_low N r20 r41 M42) fun r43 M44 =>
                          zbl (fX7_left N r43 M44) fun r45 M46 =>
                          zbl (fL_low N (r20 >>> (9 &&& 31)) 9 M46) fun r47 M48 =>
                          zbl (fL_sell N r43 ((1 : Int32) + r47) M48) fun r49 M50 =>
                          if r49 = (-3) then
                            zbl (fX7_left N r43 M50) fun r53 M54 =>
                            if r53 = r45 then
                              fL_law_B907 Ls xs N (fL_law_B65 Ls xs N n) v2 v3 v5 v6 r22 x26 1 M54
                            else
                              fL_law_B907 Ls xs N (fL_law_B65 Ls xs N n) v2 v3 v5 v6 r22 x26 0 M54
                          else
                            zbl (fL_low N (r20 >>> (9 &&& 31)) 9 M50) fun r56 M57 =>
                            if r49 = ((r45 - 1) - r56) then
                              zbl (fX7_barred N r43 M57) fun r59 M60 =>
                              if r59 = 0 then
                                fL_law_B907 Ls xs N (fL_law_B65 Ls xs N n) v2 v3 v5 v6 r22 x26 1 M60
                              else
                                fL_law_B906 Ls xs N (fL_law_B65 Ls xs N n) v2 v3 v5 v6 r22 x26 M60
                            else
                              fL_law_B906 Ls xs N (fL_law_B65 Ls xs N n) v2 v3 v5 v6 r22 x26 M57
                    else
                      zbl (fX7_batches N M28) fun r62 M63 =>
                      zbl (fX7_time N M63) fun r64 M65 =>
                      if (900 : Int32) < r64 then
                        fL_law_B784 Ls xs N (fL_law_B65 Ls xs N n) v2 v3 v5 v6 r22 x26 M65
                      else
                        zbl (fL_low N r20 3 M65) fun r67 M68 =>
                        zbl (fX7_pass N ((1 : Int32) + r67) M68) fun r69 M70 =>
                        zbl (fX7_batches N M70) fun r71 M72 =>
                        if r69 = (r71 - r62) then
                          fL_law_B784 Ls xs N (fL_law_B65 Ls xs N n) v2 v3 v5 v6 r22 x26 M72
                        else
                          fL_law_B789 Ls xs N (fL_law_B65 Ls xs N n) v2 v3 v5 v6 r22 x26 0 M72
                  else
                    zbl (fX7_time N M28) fun r74 M75 =>
                    zbl (fL_low N (r20 >>> (9 &&& 31)) 3 M75) fun r76 M77 =>
                    zv (r74 + r76) fun x78 =>
                    zbl (fL_low N r20 2 M77) fun r79 M80 =>
                    zbl (fL_book N r22 x78 r79 M80) fun r81 M82 =>
                    if r81 = (-3) then
                      fL_law_B729 Ls xs N (fL_law_B65 Ls xs N n) v2 v3 v5 v6 r22 x26 M82
                    else
                      zbl (fX7_booked N r22 x78 M82) fun r85 M86 =>
                      if r85 = r81 then
                        zbl (fX7_isHeld N r81 M86) fun r88 M89 =>
                        if r88 = 0 then
                          fL_law_B733 Ls xs N (fL_law_B65 Ls xs N n) v2 v3 v5 v6 r22 x26 M89
                        else
                          zbl (fL_low N r20 2 M89) fun r91 M92 =>
                          zbl (fX7_current N r22 r91 M92) fun r93 M94 =>
                          if r93 = r81 then
                            fL_law_B729 Ls xs N (fL_law_B65 Ls xs N n) v2 v3 v5 v6 r22 x26 M94
                          else
                            fL_law_B733 Ls xs N (fL_law_B65 Ls xs N n) v2 v3 v5 v6 r22 x26 M94
                      else
                        fL_law_B733 Ls xs N (fL_law_B65 Ls xs N n) v2 v3 v5 v6 r22 x26 M86
                else
                  if (16 : Int32) ≤ v2 then
                    fL_law_B546 Ls xs N (fL_law_B65 Ls xs N n) v2 v3 v4 v5 v6 r20 r22 x26 M28
                  else
                    if v2 = 0 then
                      fL_law_B528 Ls xs N (fL_law_B65 Ls xs N n) v2 v3 v5 v6 r20 r22 x26 M28
                    else
                      zbl (fL_low N r20 4 M28) fun r98 M99 =>
                      if r98 = 0 then
                        fL_law_B528 Ls xs N (fL_law_B65 Ls xs N n) v2 v3 v5 v6 r20 r22 x26 M99
                      else
                        fL_law_B546 Ls xs N (fL_law_B65 Ls xs N n) v2 v3 v4 v5 v6 r20 r22 x26 M99
              else
                zbl (fL_low N r20 32 M28) fun r101 M102 =>
                zbl (fL_low N (r20 >>> (9 &&& 31)) 3 M102) fun r103 M104 =>
                if r103 = 0 then
                  fL_law_B475 Ls xs N (fL_law_B65 Ls xs N n) v2 v3 v5 v6 r22 x26 r101 M104
                else
                  fL_law_B475 Ls xs N (fL_law_B65 Ls xs N n) v2 v3 v5 v6 r22 x26 0 M104
            else
              zbl (fL_tell N r22 x26 M28) fun r106 M107 =>
              if r106 < 0 then
                fL_law_B430 Ls xs N (fL_law_B65 Ls xs N n) v2 v3 v5 v6 r22 x26 M107
              else
                zbl (fX7_entries N x26 M107) fun r110 M111 =>
                zbl (fX7_entries N r22 M111) fun r112 M113 =>
                if r110 < r112 then
                  fL_law_B434 Ls xs N (fL_law_B65 Ls xs N n) v2 v3 v5 v6 r22 x26 M113
                else
                  zbl (fL_tell N r22 x26 M113) fun r115 M116 =>
                  if r115 = 0 then
                    fL_law_B430 Ls xs N (fL_law_B65 Ls xs N n) v2 v3 v5 v6 r22 x26 M116
                  else
                    fL_law_B434 Ls xs N (fL_law_B65 Ls xs N n) v2 v3 v5 v6 r22 x26 M116
          else
            zbl (fX7_versions N M28) fun r119 M120 =>
            zbl (fL_low N r20 2 M120) fun r121 M122 =>
            zbl (fL_low N (r20 >>> (5 &&& 31)) 3 M122) fun r123 M124 =>
            zbl (fL_low N (r20 >>> (8 &&& 31)) 40 M124) fun r125 M126 =>
            zbl (fL_propose N r22 r121 ((1 : Int32) + r123) ((1 : Int32) + r125) M126) fun r127 M128 =>
            if r127 = (-3) then
              zbl (fX7_versions N M128) fun r131 M132 =>
              if r131 = r119 then
                fL_law_B377 Ls xs N (fL_law_B65 Ls xs N n) v2 v3 v5 v6 r22 x26 1 M132
              else
                fL_law_B377 Ls xs N (fL_law_B65 Ls xs N n) v2 v3 v5 v6 r22 x26 0 M132
            else
              if r127 = r119 then
                zbl (fX7_entries N r22 M128) fun r135 M136 =>
                zbl (fX7_versionAt N r22 (r135 - 1) M136) fun r137 M138 =>
                if r137 = r127 then
                  zbl (fX7_holders N r127 M138) fun r140 M141 =>
                  if r140 = ((1 : Int32) <<< (r22 &&& 31)) then
                    fL_law_B377 Ls xs N (fL_law_B65 Ls xs N n) v2 v3 v5 v6 r22 x26 1 M141
                  else
                    fL_law_B376 Ls xs N (fL_law_B65 Ls xs N n) v2 v3 v5 v6 r22 x26 M141
                else
                  fL_law_B376 Ls xs N (fL_law_B65 Ls xs N n) v2 v3 v5 v6 r22 x26 M138
              else
                fL_law_B376 Ls xs N (fL_law_B65 Ls xs N n) v2 v3 v5 v6 r22 x26 M128
        else
          zbl (fX7_role N x26 M28) fun r143 M144 =>
          zbl (fL_vote N r22 x26 M144) fun r145 M146 =>
          if r145 = 0 then
            fL_law_B250 Ls xs N (fL_law_B65 Ls xs N n) v2 v3 v5 v6 r22 x26 M146
          else
            zbl (fX7_votedFor N r22 M146) fun r149 M150 =>
            if r149 = x26 then
              zbl (fX7_term N r22 M150) fun r152 M153 =>
              zbl (fX7_term N x26 M153) fun r154 M155 =>
              if r152 = r154 then
                if r143 = 1 then
                  fL_law_B250 Ls xs N (fL_law_B65 Ls xs N n) v2 v3 v5 v6 r22 x26 M155
                else
                  fL_law_B254 Ls xs N (fL_law_B65 Ls xs N n) v2 v3 v5 v6 r22 x26 M155
              else
                fL_law_B254 Ls xs N (fL_law_B65 Ls xs N n) v2 v3 v5 v6 r22 x26 M155
            else
              fL_law_B254 Ls xs N (fL_law_B65 Ls xs N n) v2 v3 v5 v6 r22 x26 M150
      else
        zbl (fX7_term N r22 M28) fun r158 M159 =>
        zbl (fX7_stand N r22 M159) fun r160 M161 =>
        if r160 = (r158 + 1) then
          zbl (fX7_role N r22 M161) fun r163 M164 =>
          if r163 = 1 then
            zbl (fX7_votedFor N r22 M164) fun r166 M167 =>
            if r166 = r22 then
              fL_law_B180 Ls xs N (fL_law_B65 Ls xs N n) v2 v3 v5 v6 r22 x26 1 M167
            else
              fL_law_B179 Ls xs N (fL_law_B65 Ls xs N n) v2 v3 v5 v6 r22 x26 M167
          else
            fL_law_B179 Ls xs N (fL_law_B65 Ls xs N n) v2 v3 v5 v6 r22 x26 M164
        else
          fL_law_B179 Ls xs N (fL_law_B65 Ls xs N n) v2 v3 v5 v6 r22 x26 M161
def fL_law_B45 (Ls : Nat) (xs : Nat → Int32) (N : Nat) (v2 : Int32) (v3 : Int32) (s0 : Int32) (M : zMem) : zRES :=
  zbl (fL_cell Ls xs N 0 M) fun r13 M14 =>
  zbl (fL_low N r13 55 M14) fun r15 M16 =>
  zv ((6 : Int32) + r15) fun x17 =>
  fL_law_B65 Ls xs N 61 v2 v3 s0 x17 0 M16
def fL_law_B44 (Ls : Nat) (xs : Nat → Int32) (N : Nat) (v2 : Int32) (v3 : Int32) (M : zMem) : zRES :=
  fL_law_B45 Ls xs N v2 v3 0 M
def fL_law_B8 (Ls : Nat) (xs : Nat → Int32) (N : Nat) (M : zMem) : zRES :=
  zbl (fL_roles N M) fun r1 M2 =>
  if r1 = 0 then
    fL_law_B44 Ls xs N 0 0 M2
  else
    zbl (fL_batches N M2) fun r4 M5 =>
    if r4 = 0 then
      fL_law_B44 Ls xs N 0 0 M5
    else
      zbl (fX7_recalls N M5) fun r7 M8 =>
      if r7 = 0 then
        zbl (fX7_stopped N M8) fun r10 M11 =>
        if r10 = 0 then
          fL_law_B45 Ls xs N 0 0 1 M11
        else
          fL_law_B44 Ls xs N 0 0 M11
      else
        fL_law_B44 Ls xs N 0 0 M8
