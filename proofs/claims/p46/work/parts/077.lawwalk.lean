set_option maxRecDepth 20000 in
set_option maxHeartbeats 4000000 in
theorem gL_law_B1214 {l : Launch} {Z : zZ} {ad : Nat → Nat} {X : zX} {b Ls : Nat} {xs : Nat → Int32} (hC : zC l Z zfull ad X RL cL_law 14 ret 11) (hX : zScr X b Ls xs) (hW0 : zLaw X b) (N : Nat) {cs : Nat × Nat} (hB : zB 0 cs) (v3 : Int32) (v4 : Int32) (v6 : Int32) (M : zMem) : zG l Z zfull ad X cs 1214 [(1, .ref (ad 0)), (3, .int v3), (4, .int v4), (6, .int v6)] [] M (fL_law_B1214 Ls xs N v3 v4 v6 M) := by
  unfold fL_law_B1214
  refine zg_iload hC 2 dL_law_1214 rfl ?_
  refine zg_if_eq hC (tgt := 1243) dL_law_1216 (by decide) (fun c266 => ?_) (fun c266 => ?_)
  · refine zg_iconst hC (v := 0) dL_law_1243 (by decide) ?_
    exact zg_none
  · refine zg_aload_n hC 0 dL_law_1219 rfl ?_
    refine zg_callSL hC hW0 hB (As := [.ref (ad 0)]) (S := []) rfl (tL_batches (zflag hC) 2 N M) lkW_96 rfl dL_law_1220 (Nat.le_of_ble_eq_true rfl) (fun r267 M268 er267 => ?_)
    refine zg_if_eq hC (tgt := 1243) dL_law_1223 (by decide) (fun c269 => ?_) (fun c269 => ?_)
    · refine zg_iconst hC (v := 0) dL_law_1243 (by decide) ?_
      exact zg_none
    · refine zg_iload hC 3 dL_law_1226 rfl ?_
      refine zg_aload_n hC 0 dL_law_1228 rfl ?_
      refine zg_callVL hC hW0 hB (k := 0) (As := []) (S := [.int v6]) rfl (tX7_recalls (zflag hC) 10 N M268) lkW_98 rfl dL_law_1229 zq0 zk0 rfl rfl (Nat.le_of_ble_eq_true rfl) (fun r270 M271 er270 => ?_)
      refine zg_icmp_lt hC (tgt := 1243) dL_law_1232 (by decide) (fun c272 => ?_) (fun c272 => ?_)
      · refine zg_iconst hC (v := 0) dL_law_1243 (by decide) ?_
        exact zg_none
      · refine zg_iload_n hC 1 dL_law_1235 rfl ?_
        refine zg_if_lt hC (tgt := 1243) dL_law_1236 (by decide) (fun c273 => ?_) (fun c273 => ?_)
        · refine zg_iconst hC (v := 0) dL_law_1243 (by decide) ?_
          exact zg_none
        · refine zg_iconst hC (v := 1) dL_law_1239 (by decide) ?_
          refine zg_goto hC (tgt := 1244) dL_law_1240 (by decide) ?_
          exact zg_lawret hC hW0 rfl hB dL_law_1244
set_option maxRecDepth 20000 in
set_option maxHeartbeats 4000000 in
theorem gL_law_B1206 {l : Launch} {Z : zZ} {ad : Nat → Nat} {X : zX} {b Ls : Nat} {xs : Nat → Int32} (hC : zC l Z zfull ad X RL cL_law 14 ret 11) (hX : zScr X b Ls xs) (hW0 : zLaw X b) (N : Nat) {cs : Nat × Nat} {again1134 : Int32 → Int32 → Int32 → Int32 → zMem → zRES} (hag1134 : ∀ (v3 : Int32) (v4 : Int32) (v6 : Int32) (v7 : Int32) (M : zMem), zG l Z zfull ad X cs 1134 [(1, .ref (ad 0)), (3, .int v3), (4, .int v4), (6, .int v6), (7, .int v7)] [] M (again1134 v3 v4 v6 v7 M)) (hB : zB 0 cs) (v3 : Int32) (v6 : Int32) (v7 : Int32) (s0 : Int32) (M : zMem) : zG l Z zfull ad X cs 1206 [(1, .ref (ad 0)), (3, .int v3), (6, .int v6), (7, .int v7)] [.int s0] M (fL_law_B1206 Ls xs N again1134 v3 v6 v7 s0 M) := by
  unfold fL_law_B1206
  refine zg_istore hC (L' := [(4, _), (1, _), (3, _), (6, _), (7, _)]) dL_law_1206 (by decide) rfl ?_
  refine zg_iinc hC 4 (v := v7 + 1) (L' := [(7, _), (4, _), (1, _), (3, _), (6, _)]) dL_law_1208 rfl (by rfl) (by decide) rfl ?_
  refine zg_goto hC (tgt := 1134) dL_law_1211 (by decide) ?_
  exact zg_sub [2, 3, 1, 4, 0] rfl (hag1134 v3 s0 v6 (v7 + 1) M)
set_option maxRecDepth 20000 in
set_option maxHeartbeats 4000000 in
theorem gL_law_B1205 {l : Launch} {Z : zZ} {ad : Nat → Nat} {X : zX} {b Ls : Nat} {xs : Nat → Int32} (hC : zC l Z zfull ad X RL cL_law 14 ret 11) (hX : zScr X b Ls xs) (hW0 : zLaw X b) (N : Nat) {cs : Nat × Nat} {again1134 : Int32 → Int32 → Int32 → Int32 → zMem → zRES} (hag1134 : ∀ (v3 : Int32) (v4 : Int32) (v6 : Int32) (v7 : Int32) (M : zMem), zG l Z zfull ad X cs 1134 [(1, .ref (ad 0)), (3, .int v3), (4, .int v4), (6, .int v6), (7, .int v7)] [] M (again1134 v3 v4 v6 v7 M)) (hB : zB 0 cs) (v3 : Int32) (v6 : Int32) (v7 : Int32) (M : zMem) : zG l Z zfull ad X cs 1205 [(1, .ref (ad 0)), (3, .int v3), (6, .int v6), (7, .int v7)] [] M (fL_law_B1205 Ls xs N again1134 v3 v6 v7 M) := by
  unfold fL_law_B1205
  refine zg_iconst hC (v := 0) dL_law_1205 (by decide) ?_
  exact zg_sub [0, 1, 2, 3] rfl (gL_law_B1206 hC hX hW0 N hag1134 (zB_w hB (Nat.zero_le _)) v3 v6 v7 0 M)
set_option maxRecDepth 20000 in
set_option maxHeartbeats 4000000 in
theorem gL_law_B1188 {l : Launch} {Z : zZ} {ad : Nat → Nat} {X : zX} {b Ls : Nat} {xs : Nat → Int32} (hC : zC l Z zfull ad X RL cL_law 14 ret 11) (hX : zScr X b Ls xs) (hW0 : zLaw X b) (N : Nat) {cs : Nat × Nat} {again1134 : Int32 → Int32 → Int32 → Int32 → zMem → zRES} (hag1134 : ∀ (v3 : Int32) (v4 : Int32) (v6 : Int32) (v7 : Int32) (M : zMem), zG l Z zfull ad X cs 1134 [(1, .ref (ad 0)), (3, .int v3), (4, .int v4), (6, .int v6), (7, .int v7)] [] M (again1134 v3 v4 v6 v7 M)) (hB : zB 0 cs) (v3 : Int32) (v6 : Int32) (v7 : Int32) (M : zMem) : zG l Z zfull ad X cs 1188 [(1, .ref (ad 0)), (3, .int v3), (6, .int v6), (7, .int v7)] [] M (fL_law_B1188 Ls xs N again1134 v3 v6 v7 M) := by
  unfold fL_law_B1188
  refine zg_aload_n hC 0 dL_law_1188 rfl ?_
  refine zg_iload hC 3 dL_law_1189 rfl ?_
  refine zg_callVL hC hW0 hB (k := 0) (As := [.int v7]) (S := []) rfl (tX7_recallOf (zflag hC) 3 N v7 M) lkW_179 rfl dL_law_1191 zq0 zk0 rfl rfl (Nat.le_of_ble_eq_true rfl) (fun r261 M262 er261 => ?_)
  refine zg_aload_n hC 0 dL_law_1194 rfl ?_
  refine zg_callVL hC hW0 hB (k := 0) (As := []) (S := [.int r261]) rfl (tX7_batches (zflag hC) 10 N M262) lkW_72 rfl dL_law_1195 zq0 zk0 rfl rfl (Nat.le_of_ble_eq_true rfl) (fun r263 M264 er263 => ?_)
  refine zg_icmp_ge hC (tgt := 1205) dL_law_1198 (by decide) (fun c265 => ?_) (fun c265 => ?_)
  · exact zg_sub [0, 1, 2, 3] rfl (gL_law_B1205 hC hX hW0 N hag1134 (zB_w hB (Nat.zero_le _)) v3 v6 v7 M264)
  · refine zg_iconst hC (v := 1) dL_law_1201 (by decide) ?_
    refine zg_goto hC (tgt := 1206) dL_law_1202 (by decide) ?_
    exact zg_sub [0, 1, 2, 3] rfl (gL_law_B1206 hC hX hW0 N hag1134 (zB_w hB (Nat.zero_le _)) v3 v6 v7 1 M264)
set_option maxRecDepth 20000 in
set_option maxHeartbeats 4000000 in
theorem gL_law_B1134 {l : Launch} {Z : zZ} {ad : Nat → Nat} {X : zX} {b Ls : Nat} {xs : Nat → Int32} (hC : zC l Z zfull ad X RL cL_law 14 ret 11) (hX : zScr X b Ls xs) (hW0 : zLaw X b) (N : Nat) {cs : Nat × Nat} (hB : zB 0 cs) : ∀ (n : Nat) (v3 : Int32) (v4 : Int32) (v6 : Int32) (v7 : Int32) (M : zMem), zG l Z zfull ad X cs 1134 [(1, .ref (ad 0)), (3, .int v3), (4, .int v4), (6, .int v6), (7, .int v7)] [] M (fL_law_B1134 Ls xs N n v3 v4 v6 v7 M) := by
  intro n
  induction n with
  | zero =>
    intro v3 v4 v6 v7 M
    exact zg_none
  | succ n ih =>
  intro v3 v4 v6 v7 M
  rw [fL_law_B1134]
  refine zg_iload hC 4 dL_law_1134 rfl ?_
  refine zg_aload_n hC 0 dL_law_1136 rfl ?_
  refine zg_callVL hC hW0 hB (k := 0) (As := []) (S := [.int v7]) rfl (tX7_recalls (zflag hC) 10 N M) lkW_98 rfl dL_law_1137 zq0 zk0 rfl rfl (Nat.le_of_ble_eq_true rfl) (fun r245 M246 er245 => ?_)
  refine zg_icmp_ge hC (tgt := 1214) dL_law_1140 (by decide) (fun c247 => ?_) (fun c247 => ?_)
  · exact zg_sub [0, 1, 2, 3] rfl (gL_law_B1214 hC hX hW0 N (zB_w hB (Nat.zero_le _)) v3 v4 v6 M246)
  · refine zg_iload hC 2 dL_law_1143 rfl ?_
    refine zg_if_eq hC (tgt := 1214) dL_law_1145 (by decide) (fun c248 => ?_) (fun c248 => ?_)
    · exact zg_sub [0, 1, 2, 3] rfl (gL_law_B1214 hC hX hW0 N (zB_w hB (Nat.zero_le _)) v3 v4 v6 M246)
    · refine zg_iload hC 3 dL_law_1148 rfl ?_
      refine zg_aload_n hC 0 dL_law_1150 rfl ?_
      refine zg_iload hC 4 dL_law_1151 rfl ?_
      refine zg_callVL hC hW0 hB (k := 0) (As := [.int v7]) (S := [.int v6]) rfl (tX7_calledBack (zflag hC) 3 N v7 M246) lkW_173 rfl dL_law_1153 zq0 zk0 rfl rfl (Nat.le_of_ble_eq_true rfl) (fun r249 M250 er249 => ?_)
      refine zg_iadd hC dL_law_1156 ?_
      refine zg_nm (fun x251 ex251 => ?_)
      refine zg_istore hC (L' := [(6, _), (1, _), (3, _), (4, _), (7, _)]) dL_law_1157 (by decide) rfl ?_
      refine zg_aload_n hC 1 dL_law_1159 rfl ?_
      refine zg_iload hC 4 dL_law_1160 rfl ?_
      refine zg_callVL hC hW0 hB (k := 0) (As := [.int v7]) (S := []) rfl (tX7_calledBack (zflag hC) 3 N v7 M250) lkW_173 rfl dL_law_1162 zq0 zk0 rfl rfl (Nat.le_of_ble_eq_true rfl) (fun r252 M253 er252 => ?_)
      refine zg_if_le hC (tgt := 1205) dL_law_1165 (by decide) (fun c254 => ?_) (fun c254 => ?_)
      · exact zg_sub [1, 2, 0, 4] rfl (gL_law_B1205 hC hX hW0 N ih (zB_w hB (Nat.zero_le _)) v3 x251 v7 M253)
      · refine zg_aload_n hC 1 dL_law_1168 rfl ?_
        refine zg_iload hC 4 dL_law_1169 rfl ?_
        refine zg_callVL hC hW0 hB (k := 0) (As := [.int v7]) (S := []) rfl (tX7_why (zflag hC) 3 N v7 M253) lkW_176 rfl dL_law_1171 zq0 zk0 rfl rfl (Nat.le_of_ble_eq_true rfl) (fun r255 M256 er255 => ?_)
        refine zg_iconst hC (v := 1) dL_law_1174 (by decide) ?_
        refine zg_icmp_eq hC (tgt := 1188) dL_law_1175 (by decide) (fun c257 => ?_) (fun c257 => ?_)
        · exact zg_sub [1, 2, 0, 4] rfl (gL_law_B1188 hC hX hW0 N ih (zB_w hB (Nat.zero_le _)) v3 x251 v7 M256)
        · refine zg_aload_n hC 1 dL_law_1178 rfl ?_
          refine zg_iload hC 4 dL_law_1179 rfl ?_
          refine zg_callVL hC hW0 hB (k := 0) (As := [.int v7]) (S := []) rfl (tX7_why (zflag hC) 3 N v7 M256) lkW_176 rfl dL_law_1181 zq0 zk0 rfl rfl (Nat.le_of_ble_eq_true rfl) (fun r258 M259 er258 => ?_)
          refine zg_iconst hC (v := 2) dL_law_1184 (by decide) ?_
          refine zg_icmp_ne hC (tgt := 1205) dL_law_1185 (by decide) (fun c260 => ?_) (fun c260 => ?_)
          · exact zg_sub [1, 2, 0, 4] rfl (gL_law_B1188 hC hX hW0 N ih (zB_w hB (Nat.zero_le _)) v3 x251 v7 M259)
          · exact zg_sub [1, 2, 0, 4] rfl (gL_law_B1205 hC hX hW0 N ih (zB_w hB (Nat.zero_le _)) v3 x251 v7 M259)
set_option maxRecDepth 20000 in
set_option maxHeartbeats 4000000 in
theorem gL_law_B1128 {l : Launch} {Z : zZ} {ad : Nat → Nat} {X : zX} {b Ls : Nat} {xs : Nat → Int32} (hC : zC l Z zfull ad X RL cL_law 14 ret 11) (hX : zScr X b Ls xs) (hW0 : zLaw X b) (N : Nat) {cs : Nat × Nat} (hB : zB 0 cs) (v3 : Int32) (v4 : Int32) (M : zMem) : zG l Z zfull ad X cs 1128 [(1, .ref (ad 0)), (3, .int v3), (4, .int v4)] [] M (fL_law_B1128 Ls xs N v3 v4 M) := by
  unfold fL_law_B1128
  refine zg_iconst hC (v := 0) dL_law_1128 (by decide) ?_
  refine zg_istore hC (L' := [(6, _), (1, _), (3, _), (4, _)]) dL_law_1129 (by decide) rfl ?_
  refine zg_iconst hC (v := 0) dL_law_1131 (by decide) ?_
  refine zg_istore hC (L' := [(7, _), (6, _), (1, _), (3, _), (4, _)]) dL_law_1132 (by decide) rfl ?_
  exact zg_sub [2, 3, 4, 1, 0] rfl (gL_law_B1134 hC hX hW0 N (zB_w hB (Nat.zero_le _)) N v3 v4 0 0 M)
set_option maxRecDepth 20000 in
set_option maxHeartbeats 4000000 in
theorem gL_law_B1120 {l : Launch} {Z : zZ} {ad : Nat → Nat} {X : zX} {b Ls : Nat} {xs : Nat → Int32} (hC : zC l Z zfull ad X RL cL_law 14 ret 11) (hX : zScr X b Ls xs) (hW0 : zLaw X b) (N : Nat) {cs : Nat × Nat} {again1080 : Int32 → Int32 → Int32 → zMem → zRES} (hag1080 : ∀ (v3 : Int32) (v4 : Int32) (v6 : Int32) (M : zMem), zG l Z zfull ad X cs 1080 [(1, .ref (ad 0)), (3, .int v3), (4, .int v4), (6, .int v6)] [] M (again1080 v3 v4 v6 M)) (hB : zB 0 cs) (v3 : Int32) (v6 : Int32) (s0 : Int32) (M : zMem) : zG l Z zfull ad X cs 1120 [(1, .ref (ad 0)), (3, .int v3), (6, .int v6)] [.int s0] M (fL_law_B1120 Ls xs N again1080 v3 v6 s0 M) := by
  unfold fL_law_B1120
  refine zg_istore hC (L' := [(4, _), (1, _), (3, _), (6, _)]) dL_law_1120 (by decide) rfl ?_
  refine zg_iinc hC 3 (v := v6 + 1) (L' := [(6, _), (4, _), (1, _), (3, _)]) dL_law_1122 rfl (by rfl) (by decide) rfl ?_
  refine zg_goto hC (tgt := 1080) dL_law_1125 (by decide) ?_
  exact zg_sub [2, 3, 1, 0] rfl (hag1080 v3 s0 (v6 + 1) M)
set_option maxRecDepth 20000 in
set_option maxHeartbeats 4000000 in
theorem gL_law_B1080 {l : Launch} {Z : zZ} {ad : Nat → Nat} {X : zX} {b Ls : Nat} {xs : Nat → Int32} (hC : zC l Z zfull ad X RL cL_law 14 ret 11) (hX : zScr X b Ls xs) (hW0 : zLaw X b) (N : Nat) {cs : Nat × Nat} (hB : zB 0 cs) : ∀ (n : Nat) (v3 : Int32) (v4 : Int32) (v6 : Int32) (M : zMem), zG l Z zfull ad X cs 1080 [(1, .ref (ad 0)), (3, .int v3), (4, .int v4), (6, .int v6)] [] M (fL_law_B1080 Ls xs N n v3 v4 v6 M) := by
  intro n
  induction n with
  | zero =>
    intro v3 v4 v6 M
    exact zg_none
  | succ n ih =>
  intro v3 v4 v6 M
  rw [fL_law_B1080]
  refine zg_iload hC 3 dL_law_1080 rfl ?_
  refine zg_aload_n hC 0 dL_law_1082 rfl ?_
  refine zg_callVL hC hW0 hB (k := 0) (As := []) (S := [.int v6]) rfl (tX7_batches (zflag hC) 10 N M) lkW_72 rfl dL_law_1083 zq0 zk0 rfl rfl (Nat.le_of_ble_eq_true rfl) (fun r235 M236 er235 => ?_)
  refine zg_icmp_ge hC (tgt := 1128) dL_law_1086 (by decide) (fun c237 => ?_) (fun c237 => ?_)
  · exact zg_sub [0, 1, 2] rfl (gL_law_B1128 hC hX hW0 N (zB_w hB (Nat.zero_le _)) v3 v4 M236)
  · refine zg_iload hC 3 dL_law_1089 rfl ?_
    refine zg_iconst hC (v := 2) dL_law_1091 (by decide) ?_
    refine zg_icmp_ge hC (tgt := 1128) dL_law_1092 (by decide) (fun c238 => ?_) (fun c238 => ?_)
    · exact zg_sub [0, 1, 2] rfl (gL_law_B1128 hC hX hW0 N (zB_w hB (Nat.zero_le _)) v3 v4 M236)
    · refine zg_iload hC 2 dL_law_1095 rfl ?_
      refine zg_if_eq hC (tgt := 1128) dL_law_1097 (by decide) (fun c239 => ?_) (fun c239 => ?_)
      · exact zg_sub [0, 1, 2] rfl (gL_law_B1128 hC hX hW0 N (zB_w hB (Nat.zero_le _)) v3 v4 M236)
      · refine zg_aload_n hC 0 dL_law_1100 rfl ?_
        refine zg_iload hC 3 dL_law_1101 rfl ?_
        refine zg_callVL hC hW0 hB (k := 0) (As := [.int v6]) (S := []) rfl (tX7_barred (zflag hC) 3 N v6 M236) lkW_76 rfl dL_law_1103 zq0 zk0 rfl rfl (Nat.le_of_ble_eq_true rfl) (fun r240 M241 er240 => ?_)
        refine zg_aload_n hC 0 dL_law_1106 rfl ?_
        refine zg_iload hC 3 dL_law_1107 rfl ?_
        refine zg_callVL hC hW0 hB (k := 0) (As := [.int v6]) (S := [.int r240]) rfl (tX7_barredAnew (zflag hC) 3 N v6 M241) lkW_170 rfl dL_law_1109 zq0 zk0 rfl rfl (Nat.le_of_ble_eq_true rfl) (fun r242 M243 er242 => ?_)
        refine zg_icmp_ne hC (tgt := 1119) dL_law_1112 (by decide) (fun c244 => ?_) (fun c244 => ?_)
        · refine zg_iconst hC (v := 1) dL_law_1115 (by decide) ?_
          refine zg_goto hC (tgt := 1120) dL_law_1116 (by decide) ?_
          exact zg_sub [0, 1, 3] rfl (gL_law_B1120 hC hX hW0 N ih (zB_w hB (Nat.zero_le _)) v3 v6 1 M243)
        · refine zg_iconst hC (v := 0) dL_law_1119 (by decide) ?_
          exact zg_sub [0, 1, 3] rfl (gL_law_B1120 hC hX hW0 N ih (zB_w hB (Nat.zero_le _)) v3 v6 0 M243)
set_option maxRecDepth 20000 in
set_option maxHeartbeats 4000000 in
theorem gL_law_B1077 {l : Launch} {Z : zZ} {ad : Nat → Nat} {X : zX} {b Ls : Nat} {xs : Nat → Int32} (hC : zC l Z zfull ad X RL cL_law 14 ret 11) (hX : zScr X b Ls xs) (hW0 : zLaw X b) (N : Nat) {cs : Nat × Nat} (hB : zB 0 cs) (v3 : Int32) (v4 : Int32) (M : zMem) : zG l Z zfull ad X cs 1077 [(1, .ref (ad 0)), (3, .int v3), (4, .int v4)] [] M (fL_law_B1077 Ls xs N v3 v4 M) := by
  unfold fL_law_B1077
  refine zg_iconst hC (v := 0) dL_law_1077 (by decide) ?_
  refine zg_istore hC (L' := [(6, _), (1, _), (3, _), (4, _)]) dL_law_1078 (by decide) rfl ?_
  exact zg_sub [1, 2, 3, 0] rfl (gL_law_B1080 hC hX hW0 N (zB_w hB (Nat.zero_le _)) N v3 v4 0 M)
set_option maxRecDepth 20000 in
set_option maxHeartbeats 4000000 in
theorem gL_law_B1069 {l : Launch} {Z : zZ} {ad : Nat → Nat} {X : zX} {b Ls : Nat} {xs : Nat → Int32} (hC : zC l Z zfull ad X RL cL_law 14 ret 11) (hX : zScr X b Ls xs) (hW0 : zLaw X b) (N : Nat) {nb : Nat} {cs : Nat × Nat} {again65 : Int32 → Int32 → Int32 → Int32 → Int32 → zMem → zRES} (hag65 : ∀ (cs : Nat × Nat), zB (2 * nb) cs → ∀ (v2 : Int32) (v3 : Int32) (v4 : Int32) (v5 : Int32) (v6 : Int32) (M : zMem), zG l Z zfull ad X cs 65 [(0, .ref b), (1, .ref (ad 0)), (2, .int v2), (3, .int v3), (4, .int v4), (5, .int v5), (6, .int v6)] [] M (again65 v2 v3 v4 v5 v6 M)) (hB : zB (2 * nb + 0) cs) (v2 : Int32) (v3 : Int32) (v5 : Int32) (v6 : Int32) (s0 : Int32) (M : zMem) : zG l Z zfull ad X cs 1069 [(0, .ref b), (1, .ref (ad 0)), (2, .int v2), (3, .int v3), (5, .int v5), (6, .int v6)] [.int s0] M (fL_law_B1069 Ls xs N again65 v2 v3 v5 v6 s0 M) := by
  unfold fL_law_B1069
  refine zg_istore hC (L' := [(4, _), (0, _), (1, _), (2, _), (3, _), (5, _), (6, _)]) dL_law_1069 (by decide) rfl ?_
  refine zg_iinc hC 6 (v := v6 + 1) (L' := [(6, _), (4, _), (0, _), (1, _), (2, _), (3, _), (5, _)]) dL_law_1071 rfl (by rfl) (by decide) rfl ?_
  refine zg_goto hC (tgt := 65) dL_law_1074 (by decide) ?_
  exact zg_sub [2, 3, 4, 5, 1, 6, 0] rfl (hag65 _ (zB_w hB (show 2 * nb ≤ _ by omega)) v2 v3 s0 v5 (v6 + 1) M)
set_option maxRecDepth 20000 in
set_option maxHeartbeats 4000000 in
theorem gL_law_B1068 {l : Launch} {Z : zZ} {ad : Nat → Nat} {X : zX} {b Ls : Nat} {xs : Nat → Int32} (hC : zC l Z zfull ad X RL cL_law 14 ret 11) (hX : zScr X b Ls xs) (hW0 : zLaw X b) (N : Nat) {nb : Nat} {cs : Nat × Nat} {again65 : Int32 → Int32 → Int32 → Int32 → Int32 → zMem → zRES} (hag65 : ∀ (cs : Nat × Nat), zB (2 * nb) cs → ∀ (v2 : Int32) (v3 : Int32) (v4 : Int32) (v5 : Int32) (v6 : Int32) (M : zMem), zG l Z zfull ad X cs 65 [(0, .ref b), (1, .ref (ad 0)), (2, .int v2), (3, .int v3), (4, .int v4), (5, .int v5), (6, .int v6)] [] M (again65 v2 v3 v4 v5 v6 M)) (hB : zB (2 * nb + 0) cs) (v2 : Int32) (v3 : Int32) (v5 : Int32) (v6 : Int32) (M : zMem) : zG l Z zfull ad X cs 1068 [(0, .ref b), (1, .ref (ad 0)), (2, .int v2), (3, .int v3), (5, .int v5), (6, .int v6)] [] M (fL_law_B1068 Ls xs N again65 v2 v3 v5 v6 M) := by
  unfold fL_law_B1068
  refine zg_iconst hC (v := 0) dL_law_1068 (by decide) ?_
  exact zg_sub [0, 1, 2, 3, 4, 5] rfl (gL_law_B1069 hC hX hW0 N hag65 (nb := nb) (zB_w hB (by omega)) v2 v3 v5 v6 0 M)
set_option maxRecDepth 20000 in
set_option maxHeartbeats 4000000 in
theorem gL_law_B1064 {l : Launch} {Z : zZ} {ad : Nat → Nat} {X : zX} {b Ls : Nat} {xs : Nat → Int32} (hC : zC l Z zfull ad X RL cL_law 14 ret 11) (hX : zScr X b Ls xs) (hW0 : zLaw X b) (N : Nat) {nb : Nat} {cs : Nat × Nat} {again65 : Int32 → Int32 → Int32 → Int32 → Int32 → zMem → zRES} (hag65 : ∀ (cs : Nat × Nat), zB (2 * nb) cs → ∀ (v2 : Int32) (v3 : Int32) (v4 : Int32) (v5 : Int32) (v6 : Int32) (M : zMem), zG l Z zfull ad X cs 65 [(0, .ref b), (1, .ref (ad 0)), (2, .int v2), (3, .int v3), (4, .int v4), (5, .int v5), (6, .int v6)] [] M (again65 v2 v3 v4 v5 v6 M)) (hB : zB (2 * nb + 0) cs) (v2 : Int32) (v3 : Int32) (v5 : Int32) (v6 : Int32) (M : zMem) : zG l Z zfull ad X cs 1064 [(0, .ref b), (1, .ref (ad 0)), (2, .int v2), (3, .int v3), (5, .int v5), (6, .int v6)] [] M (fL_law_B1064 Ls xs N again65 v2 v3 v5 v6 M) := by
  unfold fL_law_B1064
  refine zg_iconst hC (v := 1) dL_law_1064 (by decide) ?_
  refine zg_goto hC (tgt := 1069) dL_law_1065 (by decide) ?_
  exact zg_sub [0, 1, 2, 3, 4, 5] rfl (gL_law_B1069 hC hX hW0 N hag65 (nb := nb) (zB_w hB (by omega)) v2 v3 v5 v6 1 M)
set_option maxRecDepth 20000 in
set_option maxHeartbeats 4000000 in
theorem gL_law_B1019 {l : Launch} {Z : zZ} {ad : Nat → Nat} {X : zX} {b Ls : Nat} {xs : Nat → Int32} (hC : zC l Z zfull ad X RL cL_law 14 ret 11) (hX : zScr X b Ls xs) (hW0 : zLaw X b) (N : Nat) {nb : Nat} {cs : Nat × Nat} {again65 : Int32 → Int32 → Int32 → Int32 → Int32 → zMem → zRES} (hag65 : ∀ (cs : Nat × Nat), zB (2 * nb) cs → ∀ (v2 : Int32) (v3 : Int32) (v4 : Int32) (v5 : Int32) (v6 : Int32) (M : zMem), zG l Z zfull ad X cs 65 [(0, .ref b), (1, .ref (ad 0)), (2, .int v2), (3, .int v3), (4, .int v4), (5, .int v5), (6, .int v6)] [] M (again65 v2 v3 v4 v5 v6 M)) (hB : zB (2 * nb + 0) cs) (v2 : Int32) (v3 : Int32) (v4 : Int32) (v5 : Int32) (v6 : Int32) (v8 : Int32) (v9 : Int32) (M : zMem) : zG l Z zfull ad X cs 1019 [(0, .ref b), (1, .ref (ad 0)), (2, .int v2), (3, .int v3), (4, .int v4), (5, .int v5), (6, .int v6), (8, .int v8), (9, .int v9)] [] M (fL_law_B1019 Ls xs N again65 v2 v3 v4 v5 v6 v8 v9 M) := by
  unfold fL_law_B1019
  refine zg_iload hC 4 dL_law_1019 rfl ?_
  refine zg_if_eq hC (tgt := 1068) dL_law_1021 (by decide) (fun c221 => ?_) (fun c221 => ?_)
  · exact zg_sub [0, 1, 2, 3, 5, 6] rfl (gL_law_B1068 hC hX hW0 N hag65 (nb := nb) (zB_w hB (by omega)) v2 v3 v5 v6 M)
  · refine zg_aload_n hC 1 dL_law_1024 rfl ?_
    refine zg_callSL hC hW0 hB (As := [.ref (ad 0)]) (S := []) rfl (tL_roles (zflag hC) 2 N M) lkW_92 rfl dL_law_1025 (Nat.le_of_ble_eq_true rfl) (fun r222 M223 er222 => ?_)
    refine zg_if_eq hC (tgt := 1068) dL_law_1028 (by decide) (fun c224 => ?_) (fun c224 => ?_)
    · exact zg_sub [0, 1, 2, 3, 5, 6] rfl (gL_law_B1068 hC hX hW0 N hag65 (nb := nb) (zB_w hB (by omega)) v2 v3 v5 v6 M223)
    · refine zg_aload_n hC 1 dL_law_1031 rfl ?_
      refine zg_iload hC 7 dL_law_1032 rfl ?_
      refine zg_callSL hC hW0 hB (As := [.ref (ad 0), .int v8]) (S := []) rfl (tL_logs (zflag hC) 2 N v8 M223) lkW_166 rfl dL_law_1034 (Nat.le_of_ble_eq_true rfl) (fun r225 M226 er225 => ?_)
      refine zg_if_eq hC (tgt := 1068) dL_law_1037 (by decide) (fun c227 => ?_) (fun c227 => ?_)
      · exact zg_sub [0, 1, 2, 3, 5, 6] rfl (gL_law_B1068 hC hX hW0 N hag65 (nb := nb) (zB_w hB (by omega)) v2 v3 v5 v6 M226)
      · refine zg_aload_n hC 1 dL_law_1040 rfl ?_
        refine zg_iload hC 8 dL_law_1041 rfl ?_
        refine zg_callSL hC hW0 hB (As := [.ref (ad 0), .int v9]) (S := []) rfl (tL_logs (zflag hC) 2 N v9 M226) lkW_166 rfl dL_law_1043 (Nat.le_of_ble_eq_true rfl) (fun r228 M229 er228 => ?_)
        refine zg_if_eq hC (tgt := 1068) dL_law_1046 (by decide) (fun c230 => ?_) (fun c230 => ?_)
        · exact zg_sub [0, 1, 2, 3, 5, 6] rfl (gL_law_B1068 hC hX hW0 N hag65 (nb := nb) (zB_w hB (by omega)) v2 v3 v5 v6 M229)
        · refine zg_iload hC 6 dL_law_1049 rfl ?_
          refine zg_iconst hC (v := 4) dL_law_1051 (by decide) ?_
          refine zg_irem hC dL_law_1052 (by decide) ?_
          refine zg_iconst hC (v := 3) dL_law_1053 (by decide) ?_
          refine zg_icmp_lt hC (tgt := 1064) dL_law_1054 (by decide) (fun c231 => ?_) (fun c231 => ?_)
          · exact zg_sub [0, 1, 2, 3, 5, 6] rfl (gL_law_B1064 hC hX hW0 N hag65 (nb := nb) (zB_w hB (by omega)) v2 v3 v5 v6 M229)
          · refine zg_aload_n hC 1 dL_law_1057 rfl ?_
            refine zg_callSL hC hW0 hB (As := [.ref (ad 0)]) (S := []) rfl (tL_batches (zflag hC) 2 N M229) lkW_96 rfl dL_law_1058 (Nat.le_of_ble_eq_true rfl) (fun r232 M233 er232 => ?_)
            refine zg_if_eq hC (tgt := 1068) dL_law_1061 (by decide) (fun c234 => ?_) (fun c234 => ?_)
            · exact zg_sub [0, 1, 2, 3, 5, 6] rfl (gL_law_B1068 hC hX hW0 N hag65 (nb := nb) (zB_w hB (by omega)) v2 v3 v5 v6 M233)
            · exact zg_sub [0, 1, 2, 3, 5, 6] rfl (gL_law_B1064 hC hX hW0 N hag65 (nb := nb) (zB_w hB (by omega)) v2 v3 v5 v6 M233)
set_option maxRecDepth 20000 in
set_option maxHeartbeats 4000000 in
theorem gL_law_B1011 {l : Launch} {Z : zZ} {ad : Nat → Nat} {X : zX} {b Ls : Nat} {xs : Nat → Int32} (hC : zC l Z zfull ad X RL cL_law 14 ret 11) (hX : zScr X b Ls xs) (hW0 : zLaw X b) (N : Nat) {nb : Nat} {cs : Nat × Nat} {again65 : Int32 → Int32 → Int32 → Int32 → Int32 → zMem → zRES} (hag65 : ∀ (cs : Nat × Nat), zB (2 * nb) cs → ∀ (v2 : Int32) (v3 : Int32) (v4 : Int32) (v5 : Int32) (v6 : Int32) (M : zMem), zG l Z zfull ad X cs 65 [(0, .ref b), (1, .ref (ad 0)), (2, .int v2), (3, .int v3), (4, .int v4), (5, .int v5), (6, .int v6)] [] M (again65 v2 v3 v4 v5 v6 M)) {again972 : Int32 → Int32 → Int32 → Int32 → Int32 → Int32 → Int32 → Int32 → Int32 → zMem → zRES} (hag972 : ∀ (v2 : Int32) (v3 : Int32) (v4 : Int32) (v5 : Int32) (v6 : Int32) (v8 : Int32) (v9 : Int32) (v11 : Int32) (v13 : Int32) (M : zMem), zG l Z zfull ad X cs 972 [(0, .ref b), (1, .ref (ad 0)), (2, .int v2), (3, .int v3), (4, .int v4), (5, .int v5), (6, .int v6), (8, .int v8), (9, .int v9), (11, .int v11), (13, .int v13)] [] M (again972 v2 v3 v4 v5 v6 v8 v9 v11 v13 M)) (hB : zB (2 * nb + 0) cs) (v2 : Int32) (v3 : Int32) (v5 : Int32) (v6 : Int32) (v8 : Int32) (v9 : Int32) (v11 : Int32) (v13 : Int32) (s0 : Int32) (M : zMem) : zG l Z zfull ad X cs 1011 [(0, .ref b), (1, .ref (ad 0)), (2, .int v2), (3, .int v3), (5, .int v5), (6, .int v6), (8, .int v8), (9, .int v9), (11, .int v11), (13, .int v13)] [.int s0] M (fL_law_B1011 Ls xs N again65 again972 v2 v3 v5 v6 v8 v9 v11 v13 s0 M) := by
  unfold fL_law_B1011
  refine zg_istore hC (L' := [(4, _), (0, _), (1, _), (2, _), (3, _), (5, _), (6, _), (8, _), (9, _), (11, _), (13, _)]) dL_law_1011 (by decide) rfl ?_
  refine zg_iinc hC 10 (v := v13 + 1) (L' := [(13, _), (4, _), (0, _), (1, _), (2, _), (3, _), (5, _), (6, _), (8, _), (9, _), (11, _)]) dL_law_1013 rfl (by rfl) (by decide) rfl ?_
  refine zg_goto hC (tgt := 972) dL_law_1016 (by decide) ?_
  exact zg_sub [2, 3, 4, 5, 1, 6, 7, 8, 9, 10, 0] rfl (hag972 v2 v3 s0 v5 v6 v8 v9 v11 (v13 + 1) M)
set_option maxRecDepth 20000 in
set_option maxHeartbeats 4000000 in
theorem gL_law_B972 {l : Launch} {Z : zZ} {ad : Nat → Nat} {X : zX} {b Ls : Nat} {xs : Nat → Int32} (hC : zC l Z zfull ad X RL cL_law 14 ret 11) (hX : zScr X b Ls xs) (hW0 : zLaw X b) (N : Nat) {nb : Nat} {cs : Nat × Nat} {again65 : Int32 → Int32 → Int32 → Int32 → Int32 → zMem → zRES} (hag65 : ∀ (cs : Nat × Nat), zB (2 * nb) cs → ∀ (v2 : Int32) (v3 : Int32) (v4 : Int32) (v5 : Int32) (v6 : Int32) (M : zMem), zG l Z zfull ad X cs 65 [(0, .ref b), (1, .ref (ad 0)), (2, .int v2), (3, .int v3), (4, .int v4), (5, .int v5), (6, .int v6)] [] M (again65 v2 v3 v4 v5 v6 M)) (hB : zB (2 * nb + 0) cs) : ∀ (n : Nat) (v2 : Int32) (v3 : Int32) (v4 : Int32) (v5 : Int32) (v6 : Int32) (v8 : Int32) (v9 : Int32) (v11 : Int32) (v13 : Int32) (M : zMem), zG l Z zfull ad X cs 972 [(0, .ref b), (1, .ref (ad 0)), (2, .int v2), (3, .int v3), (4, .int v4), (5, .int v5), (6, .int v6), (8, .int v8), (9, .int v9), (11, .int v11), (13, .int v13)] [] M (fL_law_B972 Ls xs N again65 n v2 v3 v4 v5 v6 v8 v9 v11 v13 M) := by
  intro n
  induction n with
  | zero =>
    intro v2 v3 v4 v5 v6 v8 v9 v11 v13 M
    exact zg_none
  | succ n ih =>
  intro v2 v3 v4 v5 v6 v8 v9 v11 v13 M
  rw [fL_law_B972]
  refine zg_iload hC 10 dL_law_972 rfl ?_
  refine zg_aload_n hC 1 dL_law_974 rfl ?_
  refine zg_iload hC 9 dL_law_975 rfl ?_
  refine zg_callVL hC hW0 hB (k := 0) (As := [.int v11]) (S := [.int v13]) rfl (tX7_traced (zflag hC) 3 N v11 M) lkW_160 rfl dL_law_977 zq0 zk0 rfl rfl (Nat.le_of_ble_eq_true rfl) (fun r212 M213 er212 => ?_)
  refine zg_icmp_ge hC (tgt := 1019) dL_law_980 (by decide) (fun c214 => ?_) (fun c214 => ?_)
  · exact zg_sub [0, 1, 2, 3, 4, 5, 6, 7, 8] rfl (gL_law_B1019 hC hX hW0 N hag65 (nb := nb) (zB_w hB (by omega)) v2 v3 v4 v5 v6 v8 v9 M213)
  · refine zg_iload hC 4 dL_law_983 rfl ?_
    refine zg_if_eq hC (tgt := 1019) dL_law_985 (by decide) (fun c215 => ?_) (fun c215 => ?_)
    · exact zg_sub [0, 1, 2, 3, 4, 5, 6, 7, 8] rfl (gL_law_B1019 hC hX hW0 N hag65 (nb := nb) (zB_w hB (by omega)) v2 v3 v4 v5 v6 v8 v9 M213)
    · refine zg_aload_n hC 1 dL_law_988 rfl ?_
      refine zg_aload_n hC 1 dL_law_989 rfl ?_
      refine zg_iload hC 9 dL_law_990 rfl ?_
      refine zg_iload hC 10 dL_law_992 rfl ?_
      refine zg_callVL hC hW0 hB (k := 0) (As := [.int v11, .int v13]) (S := [.ref (ad 0)]) rfl (tX7_tracedAt (zflag hC) 3 N v11 v13 M213) lkW_163 rfl dL_law_994 zq0 zk0 rfl rfl (Nat.le_of_ble_eq_true rfl) (fun r216 M217 er216 => ?_)
      refine zg_callVL hC hW0 hB (k := 0) (As := [.int r216]) (S := []) rfl (tX7_barred (zflag hC) 3 N r216 M217) lkW_76 rfl dL_law_997 zq0 zk0 rfl rfl (Nat.le_of_ble_eq_true rfl) (fun r218 M219 er218 => ?_)
      refine zg_iconst hC (v := 2) dL_law_1000 (by decide) ?_
      refine zg_iand hC dL_law_1001 ?_
      refine zg_iconst hC (v := 2) dL_law_1002 (by decide) ?_
      refine zg_icmp_ne hC (tgt := 1010) dL_law_1003 (by decide) (fun c220 => ?_) (fun c220 => ?_)
      · refine zg_iconst hC (v := 1) dL_law_1006 (by decide) ?_
        refine zg_goto hC (tgt := 1011) dL_law_1007 (by decide) ?_
        exact zg_sub [0, 1, 2, 3, 5, 6, 7, 8, 9, 10] rfl (gL_law_B1011 hC hX hW0 N hag65 ih (nb := nb) (zB_w hB (by omega)) v2 v3 v5 v6 v8 v9 v11 v13 1 M219)
      · refine zg_iconst hC (v := 0) dL_law_1010 (by decide) ?_
        exact zg_sub [0, 1, 2, 3, 5, 6, 7, 8, 9, 10] rfl (gL_law_B1011 hC hX hW0 N hag65 ih (nb := nb) (zB_w hB (by omega)) v2 v3 v5 v6 v8 v9 v11 v13 0 M219)
set_option maxRecDepth 20000 in
set_option maxHeartbeats 4000000 in
theorem gL_law_B967 {l : Launch} {Z : zZ} {ad : Nat → Nat} {X : zX} {b Ls : Nat} {xs : Nat → Int32} (hC : zC l Z zfull ad X RL cL_law 14 ret 11) (hX : zScr X b Ls xs) (hW0 : zLaw X b) (N : Nat) {nb : Nat} {cs : Nat × Nat} {again65 : Int32 → Int32 → Int32 → Int32 → Int32 → zMem → zRES} (hag65 : ∀ (cs : Nat × Nat), zB (2 * nb) cs → ∀ (v2 : Int32) (v3 : Int32) (v4 : Int32) (v5 : Int32) (v6 : Int32) (M : zMem), zG l Z zfull ad X cs 65 [(0, .ref b), (1, .ref (ad 0)), (2, .int v2), (3, .int v3), (4, .int v4), (5, .int v5), (6, .int v6)] [] M (again65 v2 v3 v4 v5 v6 M)) (hB : zB (2 * nb + 0) cs) (v2 : Int32) (v3 : Int32) (v5 : Int32) (v6 : Int32) (v8 : Int32) (v9 : Int32) (v11 : Int32) (s0 : Int32) (M : zMem) : zG l Z zfull ad X cs 967 [(0, .ref b), (1, .ref (ad 0)), (2, .int v2), (3, .int v3), (5, .int v5), (6, .int v6), (8, .int v8), (9, .int v9), (11, .int v11)] [.int s0] M (fL_law_B967 Ls xs N again65 v2 v3 v5 v6 v8 v9 v11 s0 M) := by
  unfold fL_law_B967
  refine zg_istore hC (L' := [(4, _), (0, _), (1, _), (2, _), (3, _), (5, _), (6, _), (8, _), (9, _), (11, _)]) dL_law_967 (by decide) rfl ?_
  refine zg_iconst hC (v := 0) dL_law_969 (by decide) ?_
  refine zg_istore hC (L' := [(13, _), (4, _), (0, _), (1, _), (2, _), (3, _), (5, _), (6, _), (8, _), (9, _), (11, _)]) dL_law_970 (by decide) rfl ?_
  exact zg_sub [2, 3, 4, 5, 1, 6, 7, 8, 9, 10, 0] rfl (gL_law_B972 hC hX hW0 N hag65 (nb := nb) (zB_w hB (by omega)) N v2 v3 s0 v5 v6 v8 v9 v11 0 M)
set_option maxRecDepth 20000 in
set_option maxHeartbeats 4000000 in
theorem gL_law_B966 {l : Launch} {Z : zZ} {ad : Nat → Nat} {X : zX} {b Ls : Nat} {xs : Nat → Int32} (hC : zC l Z zfull ad X RL cL_law 14 ret 11) (hX : zScr X b Ls xs) (hW0 : zLaw X b) (N : Nat) {nb : Nat} {cs : Nat × Nat} {again65 : Int32 → Int32 → Int32 → Int32 → Int32 → zMem → zRES} (hag65 : ∀ (cs : Nat × Nat), zB (2 * nb) cs → ∀ (v2 : Int32) (v3 : Int32) (v4 : Int32) (v5 : Int32) (v6 : Int32) (M : zMem), zG l Z zfull ad X cs 65 [(0, .ref b), (1, .ref (ad 0)), (2, .int v2), (3, .int v3), (4, .int v4), (5, .int v5), (6, .int v6)] [] M (again65 v2 v3 v4 v5 v6 M)) (hB : zB (2 * nb + 0) cs) (v2 : Int32) (v3 : Int32) (v5 : Int32) (v6 : Int32) (v8 : Int32) (v9 : Int32) (v11 : Int32) (M : zMem) : zG l Z zfull ad X cs 966 [(0, .ref b), (1, .ref (ad 0)), (2, .int v2), (3, .int v3), (5, .int v5), (6, .int v6), (8, .int v8), (9, .int v9), (11, .int v11)] [] M (fL_law_B966 Ls xs N again65 v2 v3 v5 v6 v8 v9 v11 M) := by
  unfold fL_law_B966
  refine zg_iconst hC (v := 0) dL_law_966 (by decide) ?_
  exact zg_sub [0, 1, 2, 3, 4, 5, 6, 7, 8] rfl (gL_law_B967 hC hX hW0 N hag65 (nb := nb) (zB_w hB (by omega)) v2 v3 v5 v6 v8 v9 v11 0 M)
set_option maxRecDepth 20000 in
set_option maxHeartbeats 4000000 in
theorem gL_law_B912 {l : Launch} {Z : zZ} {ad : Nat → Nat} {X : zX} {b Ls : Nat} {xs : Nat → Int32} (hC : zC l Z zfull ad X RL cL_law 14 ret 11) (hX : zScr X b Ls xs) (hW0 : zLaw X b) (N : Nat) {nb : Nat} {cs : Nat × Nat} {again65 : Int32 → Int32 → Int32 → Int32 → Int32 → zMem → zRES} (hag65 : ∀ (cs : Nat × Nat), zB (2 * nb) cs → ∀ (v2 : Int32) (v3 : Int32) (v4 : Int32) (v5 : Int32) (v6 : Int32) (M : zMem), zG l Z zfull ad X cs 65 [(0, .ref b), (1, .ref (ad 0)), (2, .int v2), (3, .int v3), (4, .int v4), (5, .int v5), (6, .int v6)] [] M (again65 v2 v3 v4 v5 v6 M)) (hB : zB (2 * nb + 2) cs) (v2 : Int32) (v3 : Int32) (v4 : Int32) (v5 : Int32) (v6 : Int32) (v7 : Int32) (v8 : Int32) (v9 : Int32) (M : zMem) : zG l Z zfull ad X cs 912 [(0, .ref b), (1, .ref (ad 0)), (2, .int v2), (3, .int v3), (4, .int v4), (5, .int v5), (6, .int v6), (7, .int v7), (8, .int v8), (9, .int v9)] [] M (fL_law_B912 Ls xs N again65 v2 v3 v4 v5 v6 v7 v8 v9 M) := by
  unfold fL_law_B912
  refine zg_iload_n hC 2 dL_law_912 rfl ?_
  refine zg_if_le hC (tgt := 1019) dL_law_913 (by decide) (fun c198 => ?_) (fun c198 => ?_)
  · exact zg_sub [0, 1, 2, 3, 4, 5, 6, 8, 9] rfl (gL_law_B1019 hC hX hW0 N hag65 (nb := nb) (zB_w hB (by omega)) v2 v3 v4 v5 v6 v8 v9 M)
  · refine zg_iload hC 7 dL_law_916 rfl ?_
    refine zg_iconst hC (v := 3) dL_law_918 (by decide) ?_
    refine zg_callSL hC hW0 hB (As := [.int v7, .int 3]) (S := []) rfl (tL_low (zflag hC) 10 N v7 3 M) lkW_108 rfl dL_law_919 (Nat.le_of_ble_eq_true rfl) (fun r199 M200 er199 => ?_)
    refine zg_if_ne hC (tgt := 1019) dL_law_922 (by decide) (fun c201 => ?_) (fun c201 => ?_)
    · refine zg_iload hC 7 dL_law_925 rfl ?_
      refine zg_bipush hC (v := 9) dL_law_927 (by decide) ?_
      refine zg_ishr hC dL_law_929 ?_
      refine zg_iload_n hC 2 dL_law_930 rfl ?_
      refine zg_callSL hC hW0 hB (As := [.int (v7 >>> (9 &&& 31)), .int v2]) (S := []) rfl (tL_low (zflag hC) 10 N (v7 >>> (9 &&& 31)) v2 M200) lkW_108 rfl dL_law_931 (Nat.le_of_ble_eq_true rfl) (fun r202 M203 er202 => ?_)
      refine zg_istore hC (L' := [(11, _), (0, _), (1, _), (2, _), (3, _), (4, _), (5, _), (6, _), (7, _), (8, _), (9, _)]) dL_law_934 (by decide) rfl ?_
      refine zg_aload_n hC 2 dL_law_936 rfl ?_
      refine zg_iload hC 0 dL_law_937 rfl ?_
      refine zg_callWL hC hW0 hB (As := [.ref (ad 0), .int r202]) (S := []) rfl (tL_condemn (zflag hC) 2 N r202 M203) lkW_157 rfl dL_law_939 (Nat.le_of_ble_eq_true rfl) (fun r204 M205 er204 => ?_)
      have hB206 := zB_step hB
      refine zg_istore hC (L' := [(12, _), (11, _), (0, _), (1, _), (2, _), (3, _), (4, _), (5, _), (6, _), (7, _), (8, _), (9, _)]) dL_law_942 (by decide) rfl ?_
      refine zg_iload hC 0 dL_law_944 rfl ?_
      refine zg_bipush hC (v := (-3)) dL_law_946 (by decide) ?_
      refine zg_icmp_lt hC (tgt := 966) dL_law_948 (by decide) (fun c207 => ?_) (fun c207 => ?_)
      · exact zg_sub [2, 3, 4, 5, 7, 8, 10, 11, 1] rfl (gL_law_B966 hC hX hW0 N hag65 (nb := nb) (zB_w hB206 (by omega)) v2 v3 v5 v6 v8 v9 r202 M205)
      · refine zg_aload_n hC 3 dL_law_951 rfl ?_
        refine zg_iload hC 1 dL_law_952 rfl ?_
        refine zg_callWL hC hW0 hB206 (As := [.ref (ad 0), .int r202]) (S := []) rfl (tL_condemn (zflag hC) 2 N r202 M205) lkW_157 rfl dL_law_954 (Nat.le_of_ble_eq_true rfl) (fun r208 M209 er208 => ?_)
        have hB210 := zB_step hB206
        refine zg_bipush hC (v := (-3)) dL_law_957 (by decide) ?_
        refine zg_icmp_ne hC (tgt := 966) dL_law_959 (by decide) (fun c211 => ?_) (fun c211 => ?_)
        · refine zg_iconst hC (v := 1) dL_law_962 (by decide) ?_
          refine zg_goto hC (tgt := 967) dL_law_963 (by decide) ?_
          exact zg_sub [2, 3, 4, 5, 7, 8, 10, 11, 1] rfl (gL_law_B967 hC hX hW0 N hag65 (nb := nb) (zB_w hB210 (by omega)) v2 v3 v5 v6 v8 v9 r202 1 M209)
        · exact zg_sub [2, 3, 4, 5, 7, 8, 10, 11, 1] rfl (gL_law_B966 hC hX hW0 N hag65 (nb := nb) (zB_w hB210 (by omega)) v2 v3 v5 v6 v8 v9 r202 M209)
    · exact zg_sub [0, 1, 2, 3, 4, 5, 6, 8, 9] rfl (gL_law_B1019 hC hX hW0 N hag65 (nb := nb) (zB_w hB (by omega)) v2 v3 v4 v5 v6 v8 v9 M200)
set_option maxRecDepth 20000 in
set_option maxHeartbeats 4000000 in
theorem gL_law_B907 {l : Launch} {Z : zZ} {ad : Nat → Nat} {X : zX} {b Ls : Nat} {xs : Nat → Int32} (hC : zC l Z zfull ad X RL cL_law 14 ret 11) (hX : zScr X b Ls xs) (hW0 : zLaw X b) (N : Nat) {nb : Nat} {cs : Nat × Nat} {again65 : Int32 → Int32 → Int32 → Int32 → Int32 → zMem → zRES} (hag65 : ∀ (cs : Nat × Nat), zB (2 * nb) cs → ∀ (v2 : Int32) (v3 : Int32) (v4 : Int32) (v5 : Int32) (v6 : Int32) (M : zMem), zG l Z zfull ad X cs 65 [(0, .ref b), (1, .ref (ad 0)), (2, .int v2), (3, .int v3), (4, .int v4), (5, .int v5), (6, .int v6)] [] M (again65 v2 v3 v4 v5 v6 M)) (hB : zB (2 * nb + 0) cs) (v2 : Int32) (v3 : Int32) (v5 : Int32) (v6 : Int32) (v8 : Int32) (v9 : Int32) (s0 : Int32) (M : zMem) : zG l Z zfull ad X cs 907 [(0, .ref b), (1, .ref (ad 0)), (2, .int v2), (3, .int v3), (5, .int v5), (6, .int v6), (8, .int v8), (9, .int v9)] [.int s0] M (fL_law_B907 Ls xs N again65 v2 v3 v5 v6 v8 v9 s0 M) := by
  unfold fL_law_B907
  refine zg_istore hC (L' := [(4, _), (0, _), (1, _), (2, _), (3, _), (5, _), (6, _), (8, _), (9, _)]) dL_law_907 (by decide) rfl ?_
  refine zg_goto hC (tgt := 1019) dL_law_909 (by decide) ?_
  exact zg_sub [1, 2, 3, 4, 0, 5, 6, 7, 8] rfl (gL_law_B1019 hC hX hW0 N hag65 (nb := nb) (zB_w hB (by omega)) v2 v3 s0 v5 v6 v8 v9 M)
set_option maxRecDepth 20000 in
set_option maxHeartbeats 4000000 in
theorem gL_law_B906 {l : Launch} {Z : zZ} {ad : Nat → Nat} {X : zX} {b Ls : Nat} {xs : Nat → Int32} (hC : zC l Z zfull ad X RL cL_law 14 ret 11) (hX : zScr X b Ls xs) (hW0 : zLaw X b) (N : Nat) {nb : Nat} {cs : Nat × Nat} {again65 : Int32 → Int32 → Int32 → Int32 → Int32 → zMem → zRES} (hag65 : ∀ (cs : Nat × Nat), zB (2 * nb) cs → ∀ (v2 : Int32) (v3 : Int32) (v4 : Int32) (v5 : Int32) (v6 : Int32) (M : zMem), zG l Z zfull ad X cs 65 [(0, .ref b), (1, .ref (ad 0)), (2, .int v2), (3, .int v3), (4, .int v4), (5, .int v5), (6, .int v6)] [] M (again65 v2 v3 v4 v5 v6 M)) (hB : zB (2 * nb + 0) cs) (v2 : Int32) (v3 : Int32) (v5 : Int32) (v6 : Int32) (v8 : Int32) (v9 : Int32) (M : zMem) : zG l Z zfull ad X cs 906 [(0, .ref b), (1, .ref (ad 0)), (2, .int v2), (3, .int v3), (5, .int v5), (6, .int v6), (8, .int v8), (9, .int v9)] [] M (fL_law_B906 Ls xs N again65 v2 v3 v5 v6 v8 v9 M) := by
  unfold fL_law_B906
  refine zg_iconst hC (v := 0) dL_law_906 (by decide) ?_
  exact zg_sub [0, 1, 2, 3, 4, 5, 6, 7] rfl (gL_law_B907 hC hX hW0 N hag65 (nb := nb) (zB_w hB (by omega)) v2 v3 v5 v6 v8 v9 0 M)
set_option maxRecDepth 20000 in
set_option maxHeartbeats 4000000 in
theorem gL_law_B801 {l : Launch} {Z : zZ} {ad : Nat → Nat} {X : zX} {b Ls : Nat} {xs : Nat → Int32} (hC : zC l Z zfull ad X RL cL_law 14 ret 11) (hX : zScr X b Ls xs) (hW0 : zLaw X b) (N : Nat) {nb : Nat} {cs : Nat × Nat} {again65 : Int32 → Int32 → Int32 → Int32 → Int32 → zMem → zRES} (hag65 : ∀ (cs : Nat × Nat), zB (2 * nb) cs → ∀ (v2 : Int32) (v3 : Int32) (v4 : Int32) (v5 : Int32) (v6 : Int32) (M : zMem), zG l Z zfull ad X cs 65 [(0, .ref b), (1, .ref (ad 0)), (2, .int v2), (3, .int v3), (4, .int v4), (5, .int v5), (6, .int v6)] [] M (again65 v2 v3 v4 v5 v6 M)) (hB : zB (2 * nb + 2) cs) (v2 : Int32) (v3 : Int32) (v4 : Int32) (v5 : Int32) (v6 : Int32) (v7 : Int32) (v8 : Int32) (v9 : Int32) (M : zMem) : zG l Z zfull ad X cs 801 [(0, .ref b), (1, .ref (ad 0)), (2, .int v2), (3, .int v3), (4, .int v4), (5, .int v5), (6, .int v6), (7, .int v7), (8, .int v8), (9, .int v9)] [] M (fL_law_B801 Ls xs N again65 v2 v3 v4 v5 v6 v7 v8 v9 M) := by
  unfold fL_law_B801
  refine zg_aload_n hC 1 dL_law_801 rfl ?_
  refine zg_callVL hC hW0 hB (k := 0) (As := []) (S := []) rfl (tX7_batches (zflag hC) 10 N M) lkW_72 rfl dL_law_802 zq0 zk0 rfl rfl (Nat.le_of_ble_eq_true rfl) (fun r174 M175 er174 => ?_)
  refine zg_if_le hC (tgt := 912) dL_law_805 (by decide) (fun c176 => ?_) (fun c176 => ?_)
  · exact zg_sub [0, 1, 2, 3, 4, 5, 6, 7, 8, 9] rfl (gL_law_B912 hC hX hW0 N hag65 (nb := nb) (zB_w hB (by omega)) v2 v3 v4 v5 v6 v7 v8 v9 M175)
  · refine zg_iload hC 7 dL_law_808 rfl ?_
    refine zg_aload_n hC 1 dL_law_810 rfl ?_
    refine zg_callVL hC hW0 hB (k := 0) (As := []) (S := [.int v7]) rfl (tX7_batches (zflag hC) 10 N M175) lkW_72 rfl dL_law_811 zq0 zk0 rfl rfl (Nat.le_of_ble_eq_true rfl) (fun r177 M178 er177 => ?_)
    refine zg_callSL hC hW0 hB (As := [.int v7, .int r177]) (S := []) rfl (tL_low (zflag hC) 10 N v7 r177 M178) lkW_108 rfl dL_law_814 (Nat.le_of_ble_eq_true rfl) (fun r179 M180 er179 => ?_)
    refine zg_istore hC (L' := [(11, _), (0, _), (1, _), (2, _), (3, _), (4, _), (5, _), (6, _), (7, _), (8, _), (9, _)]) dL_law_817 (by decide) rfl ?_
    refine zg_aload_n hC 2 dL_law_819 rfl ?_
    refine zg_iload hC 0 dL_law_820 rfl ?_
    refine zg_callVL hC hW0 hB (k := 0) (As := [.int r179]) (S := []) rfl (tX7_left (zflag hC) 3 N r179 M180) lkW_82 rfl dL_law_822 zq0 zk0 rfl rfl (Nat.le_of_ble_eq_true rfl) (fun r181 M182 er181 => ?_)
    refine zg_istore hC (L' := [(12, _), (11, _), (0, _), (1, _), (2, _), (3, _), (4, _), (5, _), (6, _), (7, _), (8, _), (9, _)]) dL_law_825 (by decide) rfl ?_
    refine zg_aload_n hC 3 dL_law_827 rfl ?_
    refine zg_iload hC 1 dL_law_828 rfl ?_
    refine zg_iconst hC (v := 1) dL_law_830 (by decide) ?_
    refine zg_iload hC 9 dL_law_831 rfl ?_
    refine zg_bipush hC (v := 9) dL_law_833 (by decide) ?_
    refine zg_ishr hC dL_law_835 ?_
    refine zg_bipush hC (v := 9) dL_law_836 (by decide) ?_
    refine zg_callSL hC hW0 hB (As := [.int (v7 >>> (9 &&& 31)), .int 9]) (S := [.int 1, .int r179, .ref (ad 0)]) rfl (tL_low (zflag hC) 10 N (v7 >>> (9 &&& 31)) 9 M182) lkW_108 rfl dL_law_838 (Nat.le_of_ble_eq_true rfl) (fun r183 M184 er183 => ?_)
    refine zg_iadd hC dL_law_841 ?_
    refine zg_callWL hC hW0 hB (As := [.ref (ad 0), .int r179, .int ((1 : Int32) + r183)]) (S := []) rfl (tL_sell (zflag hC) 2 N r179 ((1 : Int32) + r183) M184) lkW_155 rfl dL_law_842 (Nat.le_of_ble_eq_true rfl) (fun r185 M186 er185 => ?_)
    have hB187 := zB_step hB
    refine zg_istore hC (L' := [(13, _), (12, _), (11, _), (0, _), (1, _), (2, _), (3, _), (4, _), (5, _), (6, _), (7, _), (8, _), (9, _)]) dL_law_845 (by decide) rfl ?_
    refine zg_iload hC 0 dL_law_847 rfl ?_
    refine zg_bipush hC (v := (-3)) dL_law_849 (by decide) ?_
    refine zg_icmp_ne hC (tgt := 873) dL_law_851 (by decide) (fun c188 => ?_) (fun c188 => ?_)
    · refine zg_aload_n hC 4 dL_law_854 rfl ?_
      refine zg_iload hC 2 dL_law_855 rfl ?_
      refine zg_callVL hC hW0 hB187 (k := 0) (As := [.int r179]) (S := []) rfl (tX7_left (zflag hC) 3 N r179 M186) lkW_82 rfl dL_law_857 zq0 zk0 rfl rfl (Nat.le_of_ble_eq_true rfl) (fun r189 M190 er189 => ?_)
      refine zg_iload hC 1 dL_law_860 rfl ?_
      refine zg_icmp_ne hC (tgt := 869) dL_law_862 (by decide) (fun c191 => ?_) (fun c191 => ?_)
      · refine zg_iconst hC (v := 1) dL_law_865 (by decide) ?_
        refine zg_goto hC (tgt := 907) dL_law_866 (by decide) ?_
        exact zg_sub [3, 4, 5, 6, 8, 9, 11, 12] rfl (gL_law_B907 hC hX hW0 N hag65 (nb := nb) (zB_w hB187 (by omega)) v2 v3 v5 v6 v8 v9 1 M190)
      · refine zg_iconst hC (v := 0) dL_law_869 (by decide) ?_
        refine zg_goto hC (tgt := 907) dL_law_870 (by decide) ?_
        exact zg_sub [3, 4, 5, 6, 8, 9, 11, 12] rfl (gL_law_B907 hC hX hW0 N hag65 (nb := nb) (zB_w hB187 (by omega)) v2 v3 v5 v6 v8 v9 0 M190)
    · refine zg_iload hC 0 dL_law_873 rfl ?_
      refine zg_iload hC 1 dL_law_875 rfl ?_
      refine zg_iconst hC (v := 1) dL_law_877 (by decide) ?_
      refine zg_isub hC dL_law_878 ?_
      refine zg_iload hC 10 dL_law_879 rfl ?_
      refine zg_bipush hC (v := 9) dL_law_881 (by decide) ?_
      refine zg_ishr hC dL_law_883 ?_
      refine zg_bipush hC (v := 9) dL_law_884 (by decide) ?_
      refine zg_callSL hC hW0 hB187 (As := [.int (v7 >>> (9 &&& 31)), .int 9]) (S := [.int (r181 - 1), .int r185]) rfl (tL_low (zflag hC) 10 N (v7 >>> (9 &&& 31)) 9 M186) lkW_108 rfl dL_law_886 (Nat.le_of_ble_eq_true rfl) (fun r192 M193 er192 => ?_)
      refine zg_isub hC dL_law_889 ?_
      refine zg_icmp_ne hC (tgt := 906) dL_law_890 (by decide) (fun c194 => ?_) (fun c194 => ?_)
      · refine zg_aload_n hC 4 dL_law_893 rfl ?_
        refine zg_iload hC 2 dL_law_894 rfl ?_
        refine zg_callVL hC hW0 hB187 (k := 0) (As := [.int r179]) (S := []) rfl (tX7_barred (zflag hC) 3 N r179 M193) lkW_76 rfl dL_law_896 zq0 zk0 rfl rfl (Nat.le_of_ble_eq_true rfl) (fun r195 M196 er195 => ?_)
        refine zg_if_ne hC (tgt := 906) dL_law_899 (by decide) (fun c197 => ?_) (fun c197 => ?_)
        · refine zg_iconst hC (v := 1) dL_law_902 (by decide) ?_
          refine zg_goto hC (tgt := 907) dL_law_903 (by decide) ?_
          exact zg_sub [3, 4, 5, 6, 8, 9, 11, 12] rfl (gL_law_B907 hC hX hW0 N hag65 (nb := nb) (zB_w hB187 (by omega)) v2 v3 v5 v6 v8 v9 1 M196)
        · exact zg_sub [3, 4, 5, 6, 8, 9, 11, 12] rfl (gL_law_B906 hC hX hW0 N hag65 (nb := nb) (zB_w hB187 (by omega)) v2 v3 v5 v6 v8 v9 M196)
      · exact zg_sub [3, 4, 5, 6, 8, 9, 11, 12] rfl (gL_law_B906 hC hX hW0 N hag65 (nb := nb) (zB_w hB187 (by omega)) v2 v3 v5 v6 v8 v9 M193)
set_option maxRecDepth 20000 in
set_option maxHeartbeats 4000000 in
theorem gL_law_B789 {l : Launch} {Z : zZ} {ad : Nat → Nat} {X : zX} {b Ls : Nat} {xs : Nat → Int32} (hC : zC l Z zfull ad X RL cL_law 14 ret 11) (hX : zScr X b Ls xs) (hW0 : zLaw X b) (N : Nat) {nb : Nat} {cs : Nat × Nat} {again65 : Int32 → Int32 → Int32 → Int32 → Int32 → zMem → zRES} (hag65 : ∀ (cs : Nat × Nat), zB (2 * nb) cs → ∀ (v2 : Int32) (v3 : Int32) (v4 : Int32) (v5 : Int32) (v6 : Int32) (M : zMem), zG l Z zfull ad X cs 65 [(0, .ref b), (1, .ref (ad 0)), (2, .int v2), (3, .int v3), (4, .int v4), (5, .int v5), (6, .int v6)] [] M (again65 v2 v3 v4 v5 v6 M)) (hB : zB (2 * nb + 0) cs) (v2 : Int32) (v3 : Int32) (v5 : Int32) (v6 : Int32) (v8 : Int32) (v9 : Int32) (s0 : Int32) (M : zMem) : zG l Z zfull ad X cs 789 [(0, .ref b), (1, .ref (ad 0)), (2, .int v2), (3, .int v3), (5, .int v5), (6, .int v6), (8, .int v8), (9, .int v9)] [.int s0] M (fL_law_B789 Ls xs N again65 v2 v3 v5 v6 v8 v9 s0 M) := by
  unfold fL_law_B789
  refine zg_istore hC (L' := [(4, _), (0, _), (1, _), (2, _), (3, _), (5, _), (6, _), (8, _), (9, _)]) dL_law_789 (by decide) rfl ?_
  refine zg_goto hC (tgt := 1019) dL_law_791 (by decide) ?_
  exact zg_sub [1, 2, 3, 4, 0, 5, 6, 7, 8] rfl (gL_law_B1019 hC hX hW0 N hag65 (nb := nb) (zB_w hB (by omega)) v2 v3 s0 v5 v6 v8 v9 M)
set_option maxRecDepth 20000 in
set_option maxHeartbeats 4000000 in
theorem gL_law_B784 {l : Launch} {Z : zZ} {ad : Nat → Nat} {X : zX} {b Ls : Nat} {xs : Nat → Int32} (hC : zC l Z zfull ad X RL cL_law 14 ret 11) (hX : zScr X b Ls xs) (hW0 : zLaw X b) (N : Nat) {nb : Nat} {cs : Nat × Nat} {again65 : Int32 → Int32 → Int32 → Int32 → Int32 → zMem → zRES} (hag65 : ∀ (cs : Nat × Nat), zB (2 * nb) cs → ∀ (v2 : Int32) (v3 : Int32) (v4 : Int32) (v5 : Int32) (v6 : Int32) (M : zMem), zG l Z zfull ad X cs 65 [(0, .ref b), (1, .ref (ad 0)), (2, .int v2), (3, .int v3), (4, .int v4), (5, .int v5), (6, .int v6)] [] M (again65 v2 v3 v4 v5 v6 M)) (hB : zB (2 * nb + 0) cs) (v2 : Int32) (v3 : Int32) (v5 : Int32) (v6 : Int32) (v8 : Int32) (v9 : Int32) (M : zMem) : zG l Z zfull ad X cs 784 [(0, .ref b), (1, .ref (ad 0)), (2, .int v2), (3, .int v3), (5, .int v5), (6, .int v6), (8, .int v8), (9, .int v9)] [] M (fL_law_B784 Ls xs N again65 v2 v3 v5 v6 v8 v9 M) := by
  unfold fL_law_B784
  refine zg_iconst hC (v := 1) dL_law_784 (by decide) ?_
  refine zg_goto hC (tgt := 789) dL_law_785 (by decide) ?_
  exact zg_sub [0, 1, 2, 3, 4, 5, 6, 7] rfl (gL_law_B789 hC hX hW0 N hag65 (nb := nb) (zB_w hB (by omega)) v2 v3 v5 v6 v8 v9 1 M)
set_option maxRecDepth 20000 in
set_option maxHeartbeats 4000000 in
theorem gL_law_B746 {l : Launch} {Z : zZ} {ad : Nat → Nat} {X : zX} {b Ls : Nat} {xs : Nat → Int32} (hC : zC l Z zfull ad X RL cL_law 14 ret 11) (hX : zScr X b Ls xs) (hW0 : zLaw X b) (N : Nat) {nb : Nat} {cs : Nat × Nat} {again65 : Int32 → Int32 → Int32 → Int32 → Int32 → zMem → zRES} (hag65 : ∀ (cs : Nat × Nat), zB (2 * nb) cs → ∀ (v2 : Int32) (v3 : Int32) (v4 : Int32) (v5 : Int32) (v6 : Int32) (M : zMem), zG l Z zfull ad X cs 65 [(0, .ref b), (1, .ref (ad 0)), (2, .int v2), (3, .int v3), (4, .int v4), (5, .int v5), (6, .int v6)] [] M (again65 v2 v3 v4 v5 v6 M)) (hB : zB (2 * nb + 0) cs) (v2 : Int32) (v3 : Int32) (v5 : Int32) (v6 : Int32) (v7 : Int32) (v8 : Int32) (v9 : Int32) (M : zMem) : zG l Z zfull ad X cs 746 [(0, .ref b), (1, .ref (ad 0)), (2, .int v2), (3, .int v3), (5, .int v5), (6, .int v6), (7, .int v7), (8, .int v8), (9, .int v9)] [] M (fL_law_B746 Ls xs N again65 v2 v3 v5 v6 v7 v8 v9 M) := by
  unfold fL_law_B746
  refine zg_aload_n hC 1 dL_law_746 rfl ?_
  refine zg_callVL hC hW0 hB (k := 0) (As := []) (S := []) rfl (tX7_batches (zflag hC) 10 N M) lkW_72 rfl dL_law_747 zq0 zk0 rfl rfl (Nat.le_of_ble_eq_true rfl) (fun r162 M163 er162 => ?_)
  refine zg_istore hC (L' := [(11, _), (0, _), (1, _), (2, _), (3, _), (5, _), (6, _), (7, _), (8, _), (9, _)]) dL_law_750 (by decide) rfl ?_
  refine zg_aload_n hC 2 dL_law_752 rfl ?_
  refine zg_callVL hC hW0 hB (k := 0) (As := []) (S := []) rfl (tX7_time (zflag hC) 10 N M163) lkW_141 rfl dL_law_753 zq0 zk0 rfl rfl (Nat.le_of_ble_eq_true rfl) (fun r164 M165 er164 => ?_)
  refine zg_sipush hC (v := 900) dL_law_756 (by decide) ?_
  refine zg_icmp_gt hC (tgt := 784) dL_law_759 (by decide) (fun c166 => ?_) (fun c166 => ?_)
  · exact zg_sub [1, 2, 3, 4, 5, 6, 8, 9] rfl (gL_law_B784 hC hX hW0 N hag65 (nb := nb) (zB_w hB (by omega)) v2 v3 v5 v6 v8 v9 M165)
  · refine zg_aload_n hC 2 dL_law_762 rfl ?_
    refine zg_iconst hC (v := 1) dL_law_763 (by decide) ?_
    refine zg_iload hC 7 dL_law_764 rfl ?_
    refine zg_iconst hC (v := 3) dL_law_766 (by decide) ?_
    refine zg_callSL hC hW0 hB (As := [.int v7, .int 3]) (S := [.int 1, .ref (ad 0)]) rfl (tL_low (zflag hC) 10 N v7 3 M165) lkW_108 rfl dL_law_767 (Nat.le_of_ble_eq_true rfl) (fun r167 M168 er167 => ?_)
    refine zg_iadd hC dL_law_770 ?_
    refine zg_callVL hC hW0 hB (k := 0) (As := [.int ((1 : Int32) + r167)]) (S := []) rfl (tX7_pass (zflag hC) 4 N ((1 : Int32) + r167) M168) lkW_152 rfl dL_law_771 zq0 zk0 rfl rfl (Nat.le_of_ble_eq_true rfl) (fun r169 M170 er169 => ?_)
    refine zg_aload_n hC 2 dL_law_774 rfl ?_
    refine zg_callVL hC hW0 hB (k := 0) (As := []) (S := [.int r169]) rfl (tX7_batches (zflag hC) 10 N M170) lkW_72 rfl dL_law_775 zq0 zk0 rfl rfl (Nat.le_of_ble_eq_true rfl) (fun r171 M172 er171 => ?_)
    refine zg_iload hC 0 dL_law_778 rfl ?_
    refine zg_isub hC dL_law_780 ?_
    refine zg_icmp_ne hC (tgt := 788) dL_law_781 (by decide) (fun c173 => ?_) (fun c173 => ?_)
    · exact zg_sub [1, 2, 3, 4, 5, 6, 8, 9] rfl (gL_law_B784 hC hX hW0 N hag65 (nb := nb) (zB_w hB (by omega)) v2 v3 v5 v6 v8 v9 M172)
    · refine zg_iconst hC (v := 0) dL_law_788 (by decide) ?_
      exact zg_sub [1, 2, 3, 4, 5, 6, 8, 9] rfl (gL_law_B789 hC hX hW0 N hag65 (nb := nb) (zB_w hB (by omega)) v2 v3 v5 v6 v8 v9 0 M172)
set_option maxRecDepth 20000 in
set_option maxHeartbeats 4000000 in
theorem gL_law_B734 {l : Launch} {Z : zZ} {ad : Nat → Nat} {X : zX} {b Ls : Nat} {xs : Nat → Int32} (hC : zC l Z zfull ad X RL cL_law 14 ret 11) (hX : zScr X b Ls xs) (hW0 : zLaw X b) (N : Nat) {nb : Nat} {cs : Nat × Nat} {again65 : Int32 → Int32 → Int32 → Int32 → Int32 → zMem → zRES} (hag65 : ∀ (cs : Nat × Nat), zB (2 * nb) cs → ∀ (v2 : Int32) (v3 : Int32) (v4 : Int32) (v5 : Int32) (v6 : Int32) (M : zMem), zG l Z zfull ad X cs 65 [(0, .ref b), (1, .ref (ad 0)), (2, .int v2), (3, .int v3), (4, .int v4), (5, .int v5), (6, .int v6)] [] M (again65 v2 v3 v4 v5 v6 M)) (hB : zB (2 * nb + 0) cs) (v2 : Int32) (v3 : Int32) (v5 : Int32) (v6 : Int32) (v8 : Int32) (v9 : Int32) (s0 : Int32) (M : zMem) : zG l Z zfull ad X cs 734 [(0, .ref b), (1, .ref (ad 0)), (2, .int v2), (3, .int v3), (5, .int v5), (6, .int v6), (8, .int v8), (9, .int v9)] [.int s0] M (fL_law_B734 Ls xs N again65 v2 v3 v5 v6 v8 v9 s0 M) := by
  unfold fL_law_B734
  refine zg_istore hC (L' := [(4, _), (0, _), (1, _), (2, _), (3, _), (5, _), (6, _), (8, _), (9, _)]) dL_law_734 (by decide) rfl ?_
  refine zg_goto hC (tgt := 1019) dL_law_736 (by decide) ?_
  exact zg_sub [1, 2, 3, 4, 0, 5, 6, 7, 8] rfl (gL_law_B1019 hC hX hW0 N hag65 (nb := nb) (zB_w hB (by omega)) v2 v3 s0 v5 v6 v8 v9 M)
set_option maxRecDepth 20000 in
set_option maxHeartbeats 4000000 in
theorem gL_law_B733 {l : Launch} {Z : zZ} {ad : Nat → Nat} {X : zX} {b Ls : Nat} {xs : Nat → Int32} (hC : zC l Z zfull ad X RL cL_law 14 ret 11) (hX : zScr X b Ls xs) (hW0 : zLaw X b) (N : Nat) {nb : Nat} {cs : Nat × Nat} {again65 : Int32 → Int32 → Int32 → Int32 → Int32 → zMem → zRES} (hag65 : ∀ (cs : Nat × Nat), zB (2 * nb) cs → ∀ (v2 : Int32) (v3 : Int32) (v4 : Int32) (v5 : Int32) (v6 : Int32) (M : zMem), zG l Z zfull ad X cs 65 [(0, .ref b), (1, .ref (ad 0)), (2, .int v2), (3, .int v3), (4, .int v4), (5, .int v5), (6, .int v6)] [] M (again65 v2 v3 v4 v5 v6 M)) (hB : zB (2 * nb + 0) cs) (v2 : Int32) (v3 : Int32) (v5 : Int32) (v6 : Int32) (v8 : Int32) (v9 : Int32) (M : zMem) : zG l Z zfull ad X cs 733 [(0, .ref b), (1, .ref (ad 0)), (2, .int v2), (3, .int v3), (5, .int v5), (6, .int v6), (8, .int v8), (9, .int v9)] [] M (fL_law_B733 Ls xs N again65 v2 v3 v5 v6 v8 v9 M) := by
  unfold fL_law_B733
  refine zg_iconst hC (v := 0) dL_law_733 (by decide) ?_
  exact zg_sub [0, 1, 2, 3, 4, 5, 6, 7] rfl (gL_law_B734 hC hX hW0 N hag65 (nb := nb) (zB_w hB (by omega)) v2 v3 v5 v6 v8 v9 0 M)
set_option maxRecDepth 20000 in
set_option maxHeartbeats 4000000 in
theorem gL_law_B729 {l : Launch} {Z : zZ} {ad : Nat → Nat} {X : zX} {b Ls : Nat} {xs : Nat → Int32} (hC : zC l Z zfull ad X RL cL_law 14 ret 11) (hX : zScr X b Ls xs) (hW0 : zLaw X b) (N : Nat) {nb : Nat} {cs : Nat × Nat} {again65 : Int32 → Int32 → Int32 → Int32 → Int32 → zMem → zRES} (hag65 : ∀ (cs : Nat × Nat), zB (2 * nb) cs → ∀ (v2 : Int32) (v3 : Int32) (v4 : Int32) (v5 : Int32) (v6 : Int32) (M : zMem), zG l Z zfull ad X cs 65 [(0, .ref b), (1, .ref (ad 0)), (2, .int v2), (3, .int v3), (4, .int v4), (5, .int v5), (6, .int v6)] [] M (again65 v2 v3 v4 v5 v6 M)) (hB : zB (2 * nb + 0) cs) (v2 : Int32) (v3 : Int32) (v5 : Int32) (v6 : Int32) (v8 : Int32) (v9 : Int32) (M : zMem) : zG l Z zfull ad X cs 729 [(0, .ref b), (1, .ref (ad 0)), (2, .int v2), (3, .int v3), (5, .int v5), (6, .int v6), (8, .int v8), (9, .int v9)] [] M (fL_law_B729 Ls xs N again65 v2 v3 v5 v6 v8 v9 M) := by
  unfold fL_law_B729
  refine zg_iconst hC (v := 1) dL_law_729 (by decide) ?_
  refine zg_goto hC (tgt := 734) dL_law_730 (by decide) ?_
  exact zg_sub [0, 1, 2, 3, 4, 5, 6, 7] rfl (gL_law_B734 hC hX hW0 N hag65 (nb := nb) (zB_w hB (by omega)) v2 v3 v5 v6 v8 v9 1 M)
set_option maxRecDepth 20000 in
set_option maxHeartbeats 4000000 in
theorem gL_law_B651 {l : Launch} {Z : zZ} {ad : Nat → Nat} {X : zX} {b Ls : Nat} {xs : Nat → Int32} (hC : zC l Z zfull ad X RL cL_law 14 ret 11) (hX : zScr X b Ls xs) (hW0 : zLaw X b) (N : Nat) {nb : Nat} {cs : Nat × Nat} {again65 : Int32 → Int32 → Int32 → Int32 → Int32 → zMem → zRES} (hag65 : ∀ (cs : Nat × Nat), zB (2 * nb) cs → ∀ (v2 : Int32) (v3 : Int32) (v4 : Int32) (v5 : Int32) (v6 : Int32) (M : zMem), zG l Z zfull ad X cs 65 [(0, .ref b), (1, .ref (ad 0)), (2, .int v2), (3, .int v3), (4, .int v4), (5, .int v5), (6, .int v6)] [] M (again65 v2 v3 v4 v5 v6 M)) (hB : zB (2 * nb + 1) cs) (v2 : Int32) (v3 : Int32) (v5 : Int32) (v6 : Int32) (v7 : Int32) (v8 : Int32) (v9 : Int32) (M : zMem) : zG l Z zfull ad X cs 651 [(0, .ref b), (1, .ref (ad 0)), (2, .int v2), (3, .int v3), (5, .int v5), (6, .int v6), (7, .int v7), (8, .int v8), (9, .int v9)] [] M (fL_law_B651 Ls xs N again65 v2 v3 v5 v6 v7 v8 v9 M) := by
  unfold fL_law_B651
  refine zg_aload_n hC 1 dL_law_651 rfl ?_
  refine zg_callVL hC hW0 hB (k := 0) (As := []) (S := []) rfl (tX7_time (zflag hC) 10 N M) lkW_141 rfl dL_law_652 zq0 zk0 rfl rfl (Nat.le_of_ble_eq_true rfl) (fun r140 M141 er140 => ?_)
  refine zg_iload hC 6 dL_law_655 rfl ?_
  refine zg_bipush hC (v := 9) dL_law_657 (by decide) ?_
  refine zg_ishr hC dL_law_659 ?_
  refine zg_iconst hC (v := 3) dL_law_660 (by decide) ?_
  refine zg_callSL hC hW0 hB (As := [.int (v7 >>> (9 &&& 31)), .int 3]) (S := [.int r140]) rfl (tL_low (zflag hC) 10 N (v7 >>> (9 &&& 31)) 3 M141) lkW_108 rfl dL_law_661 (Nat.le_of_ble_eq_true rfl) (fun r142 M143 er142 => ?_)
  refine zg_iadd hC dL_law_664 ?_
  refine zg_nm (fun x144 ex144 => ?_)
  refine zg_istore hC (L' := [(11, _), (0, _), (1, _), (2, _), (3, _), (5, _), (6, _), (7, _), (8, _), (9, _)]) dL_law_665 (by decide) rfl ?_
  refine zg_aload_n hC 2 dL_law_667 rfl ?_
  refine zg_iload hC 8 dL_law_668 rfl ?_
  refine zg_iload hC 0 dL_law_670 rfl ?_
  refine zg_iload hC 7 dL_law_672 rfl ?_
  refine zg_iconst hC (v := 2) dL_law_674 (by decide) ?_
  refine zg_callSL hC hW0 hB (As := [.int v7, .int 2]) (S := [.int x144, .int v8, .ref (ad 0)]) rfl (tL_low (zflag hC) 10 N v7 2 M143) lkW_108 rfl dL_law_675 (Nat.le_of_ble_eq_true rfl) (fun r145 M146 er145 => ?_)
  refine zg_callWL hC hW0 hB (As := [.ref (ad 0), .int v8, .int x144, .int r145]) (S := []) rfl (tL_book (zflag hC) 2 N v8 x144 r145 M146) lkW_144 rfl dL_law_678 (Nat.le_of_ble_eq_true rfl) (fun r147 M148 er147 => ?_)
  have hB149 := zB_step hB
  refine zg_istore hC (L' := [(12, _), (11, _), (0, _), (1, _), (2, _), (3, _), (5, _), (6, _), (7, _), (8, _), (9, _)]) dL_law_681 (by decide) rfl ?_
  refine zg_iload hC 0 dL_law_683 rfl ?_
  refine zg_bipush hC (v := (-3)) dL_law_685 (by decide) ?_
  refine zg_icmp_eq hC (tgt := 729) dL_law_687 (by decide) (fun c150 => ?_) (fun c150 => ?_)
  · exact zg_sub [2, 3, 4, 5, 6, 7, 9, 10] rfl (gL_law_B729 hC hX hW0 N hag65 (nb := nb) (zB_w hB149 (by omega)) v2 v3 v5 v6 v8 v9 M148)
  · refine zg_aload_n hC 3 dL_law_690 rfl ?_
    refine zg_iload hC 9 dL_law_691 rfl ?_
    refine zg_iload hC 1 dL_law_693 rfl ?_
    refine zg_callVL hC hW0 hB149 (k := 0) (As := [.int v8, .int x144]) (S := []) rfl (tX7_booked (zflag hC) 3 N v8 x144 M148) lkW_146 rfl dL_law_695 zq0 zk0 rfl rfl (Nat.le_of_ble_eq_true rfl) (fun r151 M152 er151 => ?_)
    refine zg_iload hC 0 dL_law_698 rfl ?_
    refine zg_icmp_ne hC (tgt := 733) dL_law_700 (by decide) (fun c153 => ?_) (fun c153 => ?_)
    · refine zg_aload_n hC 3 dL_law_703 rfl ?_
      refine zg_iload hC 0 dL_law_704 rfl ?_
      refine zg_callVL hC hW0 hB149 (k := 0) (As := [.int r147]) (S := []) rfl (tX7_isHeld (zflag hC) 3 N r147 M152) lkW_60 rfl dL_law_706 zq0 zk0 rfl rfl (Nat.le_of_ble_eq_true rfl) (fun r154 M155 er154 => ?_)
      refine zg_if_eq hC (tgt := 733) dL_law_709 (by decide) (fun c156 => ?_) (fun c156 => ?_)
      · exact zg_sub [2, 3, 4, 5, 6, 7, 9, 10] rfl (gL_law_B733 hC hX hW0 N hag65 (nb := nb) (zB_w hB149 (by omega)) v2 v3 v5 v6 v8 v9 M155)
      · refine zg_aload_n hC 3 dL_law_712 rfl ?_
        refine zg_iload hC 9 dL_law_713 rfl ?_
        refine zg_iload hC 8 dL_law_715 rfl ?_
        refine zg_iconst hC (v := 2) dL_law_717 (by decide) ?_
        refine zg_callSL hC hW0 hB149 (As := [.int v7, .int 2]) (S := [.int v8, .ref (ad 0)]) rfl (tL_low (zflag hC) 10 N v7 2 M155) lkW_108 rfl dL_law_718 (Nat.le_of_ble_eq_true rfl) (fun r157 M158 er157 => ?_)
        refine zg_callVL hC hW0 hB149 (k := 0) (As := [.int v8, .int r157]) (S := []) rfl (tX7_current (zflag hC) 3 N v8 r157 M158) lkW_149 rfl dL_law_721 zq0 zk0 rfl rfl (Nat.le_of_ble_eq_true rfl) (fun r159 M160 er159 => ?_)
        refine zg_iload hC 0 dL_law_724 rfl ?_
        refine zg_icmp_ne hC (tgt := 733) dL_law_726 (by decide) (fun c161 => ?_) (fun c161 => ?_)
        · exact zg_sub [2, 3, 4, 5, 6, 7, 9, 10] rfl (gL_law_B729 hC hX hW0 N hag65 (nb := nb) (zB_w hB149 (by omega)) v2 v3 v5 v6 v8 v9 M160)
        · exact zg_sub [2, 3, 4, 5, 6, 7, 9, 10] rfl (gL_law_B733 hC hX hW0 N hag65 (nb := nb) (zB_w hB149 (by omega)) v2 v3 v5 v6 v8 v9 M160)
    · exact zg_sub [2, 3, 4, 5, 6, 7, 9, 10] rfl (gL_law_B733 hC hX hW0 N hag65 (nb := nb) (zB_w hB149 (by omega)) v2 v3 v5 v6 v8 v9 M152)
set_option maxRecDepth 20000 in
set_option maxHeartbeats 4000000 in
theorem gL_law_B639 {l : Launch} {Z : zZ} {ad : Nat → Nat} {X : zX} {b Ls : Nat} {xs : Nat → Int32} (hC : zC l Z zfull ad X RL cL_law 14 ret 11) (hX : zScr X b Ls xs) (hW0 : zLaw X b) (N : Nat) {nb : Nat} {cs : Nat × Nat} {again65 : Int32 → Int32 → Int32 → Int32 → Int32 → zMem → zRES} (hag65 : ∀ (cs : Nat × Nat), zB (2 * nb) cs → ∀ (v2 : Int32) (v3 : Int32) (v4 : Int32) (v5 : Int32) (v6 : Int32) (M : zMem), zG l Z zfull ad X cs 65 [(0, .ref b), (1, .ref (ad 0)), (2, .int v2), (3, .int v3), (4, .int v4), (5, .int v5), (6, .int v6)] [] M (again65 v2 v3 v4 v5 v6 M)) (hB : zB (2 * nb + 0) cs) (v2 : Int32) (v3 : Int32) (v5 : Int32) (v6 : Int32) (v8 : Int32) (v9 : Int32) (s0 : Int32) (M : zMem) : zG l Z zfull ad X cs 639 [(0, .ref b), (1, .ref (ad 0)), (2, .int v2), (3, .int v3), (5, .int v5), (6, .int v6), (8, .int v8), (9, .int v9)] [.int s0] M (fL_law_B639 Ls xs N again65 v2 v3 v5 v6 v8 v9 s0 M) := by
  unfold fL_law_B639
  refine zg_istore hC (L' := [(4, _), (0, _), (1, _), (2, _), (3, _), (5, _), (6, _), (8, _), (9, _)]) dL_law_639 (by decide) rfl ?_
  refine zg_goto hC (tgt := 1019) dL_law_641 (by decide) ?_
  exact zg_sub [1, 2, 3, 4, 0, 5, 6, 7, 8] rfl (gL_law_B1019 hC hX hW0 N hag65 (nb := nb) (zB_w hB (by omega)) v2 v3 s0 v5 v6 v8 v9 M)
set_option maxRecDepth 20000 in
set_option maxHeartbeats 4000000 in
theorem gL_law_B638 {l : Launch} {Z : zZ} {ad : Nat → Nat} {X : zX} {b Ls : Nat} {xs : Nat → Int32} (hC : zC l Z zfull ad X RL cL_law 14 ret 11) (hX : zScr X b Ls xs) (hW0 : zLaw X b) (N : Nat) {nb : Nat} {cs : Nat × Nat} {again65 : Int32 → Int32 → Int32 → Int32 → Int32 → zMem → zRES} (hag65 : ∀ (cs : Nat × Nat), zB (2 * nb) cs → ∀ (v2 : Int32) (v3 : Int32) (v4 : Int32) (v5 : Int32) (v6 : Int32) (M : zMem), zG l Z zfull ad X cs 65 [(0, .ref b), (1, .ref (ad 0)), (2, .int v2), (3, .int v3), (4, .int v4), (5, .int v5), (6, .int v6)] [] M (again65 v2 v3 v4 v5 v6 M)) (hB : zB (2 * nb + 0) cs) (v2 : Int32) (v3 : Int32) (v5 : Int32) (v6 : Int32) (v8 : Int32) (v9 : Int32) (M : zMem) : zG l Z zfull ad X cs 638 [(0, .ref b), (1, .ref (ad 0)), (2, .int v2), (3, .int v3), (5, .int v5), (6, .int v6), (8, .int v8), (9, .int v9)] [] M (fL_law_B638 Ls xs N again65 v2 v3 v5 v6 v8 v9 M) := by
  unfold fL_law_B638
  refine zg_iconst hC (v := 0) dL_law_638 (by decide) ?_
  exact zg_sub [0, 1, 2, 3, 4, 5, 6, 7] rfl (gL_law_B639 hC hX hW0 N hag65 (nb := nb) (zB_w hB (by omega)) v2 v3 v5 v6 v8 v9 0 M)
set_option maxRecDepth 20000 in
set_option maxHeartbeats 4000000 in
theorem gL_law_B634 {l : Launch} {Z : zZ} {ad : Nat → Nat} {X : zX} {b Ls : Nat} {xs : Nat → Int32} (hC : zC l Z zfull ad X RL cL_law 14 ret 11) (hX : zScr X b Ls xs) (hW0 : zLaw X b) (N : Nat) {nb : Nat} {cs : Nat × Nat} {again65 : Int32 → Int32 → Int32 → Int32 → Int32 → zMem → zRES} (hag65 : ∀ (cs : Nat × Nat), zB (2 * nb) cs → ∀ (v2 : Int32) (v3 : Int32) (v4 : Int32) (v5 : Int32) (v6 : Int32) (M : zMem), zG l Z zfull ad X cs 65 [(0, .ref b), (1, .ref (ad 0)), (2, .int v2), (3, .int v3), (4, .int v4), (5, .int v5), (6, .int v6)] [] M (again65 v2 v3 v4 v5 v6 M)) (hB : zB (2 * nb + 0) cs) (v2 : Int32) (v3 : Int32) (v5 : Int32) (v6 : Int32) (v8 : Int32) (v9 : Int32) (M : zMem) : zG l Z zfull ad X cs 634 [(0, .ref b), (1, .ref (ad 0)), (2, .int v2), (3, .int v3), (5, .int v5), (6, .int v6), (8, .int v8), (9, .int v9)] [] M (fL_law_B634 Ls xs N again65 v2 v3 v5 v6 v8 v9 M) := by
  unfold fL_law_B634
  refine zg_iconst hC (v := 1) dL_law_634 (by decide) ?_
  refine zg_goto hC (tgt := 639) dL_law_635 (by decide) ?_
  exact zg_sub [0, 1, 2, 3, 4, 5, 6, 7] rfl (gL_law_B639 hC hX hW0 N hag65 (nb := nb) (zB_w hB (by omega)) v2 v3 v5 v6 v8 v9 1 M)
set_option maxRecDepth 20000 in
set_option maxHeartbeats 4000000 in
theorem gL_law_B546 {l : Launch} {Z : zZ} {ad : Nat → Nat} {X : zX} {b Ls : Nat} {xs : Nat → Int32} (hC : zC l Z zfull ad X RL cL_law 14 ret 11) (hX : zScr X b Ls xs) (hW0 : zLaw X b) (N : Nat) {nb : Nat} {cs : Nat × Nat} {again65 : Int32 → Int32 → Int32 → Int32 → Int32 → zMem → zRES} (hag65 : ∀ (cs : Nat × Nat), zB (2 * nb) cs → ∀ (v2 : Int32) (v3 : Int32) (v4 : Int32) (v5 : Int32) (v6 : Int32) (M : zMem), zG l Z zfull ad X cs 65 [(0, .ref b), (1, .ref (ad 0)), (2, .int v2), (3, .int v3), (4, .int v4), (5, .int v5), (6, .int v6)] [] M (again65 v2 v3 v4 v5 v6 M)) (hB : zB (2 * nb + 1) cs) (v2 : Int32) (v3 : Int32) (v4 : Int32) (v5 : Int32) (v6 : Int32) (v7 : Int32) (v8 : Int32) (v9 : Int32) (M : zMem) : zG l Z zfull ad X cs 546 [(0, .ref b), (1, .ref (ad 0)), (2, .int v2), (3, .int v3), (4, .int v4), (5, .int v5), (6, .int v6), (7, .int v7), (8, .int v8), (9, .int v9)] [] M (fL_law_B546 Ls xs N again65 v2 v3 v4 v5 v6 v7 v8 v9 M) := by
  unfold fL_law_B546
  refine zg_aload_n hC 1 dL_law_546 rfl ?_
  refine zg_iload hC 8 dL_law_547 rfl ?_
  refine zg_callVL hC hW0 hB (k := 0) (As := [.int v8]) (S := []) rfl (tX7_store (zflag hC) 3 N v8 M) lkW_135 rfl dL_law_549 zq0 zk0 rfl rfl (Nat.le_of_ble_eq_true rfl) (fun r120 M121 er120 => ?_)
  refine zg_istore hC (L' := [(11, _), (0, _), (1, _), (2, _), (3, _), (4, _), (5, _), (6, _), (7, _), (8, _), (9, _)]) dL_law_552 (by decide) rfl ?_
  refine zg_aload_n hC 2 dL_law_554 rfl ?_
  refine zg_iload hC 9 dL_law_555 rfl ?_
  refine zg_iload hC 8 dL_law_557 rfl ?_
  refine zg_bipush hC (v := 9) dL_law_559 (by decide) ?_
  refine zg_ishr hC dL_law_561 ?_
  refine zg_iload_n hC 3 dL_law_562 rfl ?_
  refine zg_callSL hC hW0 hB (As := [.int (v7 >>> (9 &&& 31)), .int v2]) (S := [.int v8, .ref (ad 0)]) rfl (tL_low (zflag hC) 10 N (v7 >>> (9 &&& 31)) v2 M121) lkW_108 rfl dL_law_563 (Nat.le_of_ble_eq_true rfl) (fun r122 M123 er122 => ?_)
  refine zg_iconst hC (v := 1) dL_law_566 (by decide) ?_
  refine zg_iload hC 8 dL_law_567 rfl ?_
  refine zg_bipush hC (v := 9) dL_law_569 (by decide) ?_
  refine zg_callSL hC hW0 hB (As := [.int v7, .int 9]) (S := [.int 1, .int r122, .int v8, .ref (ad 0)]) rfl (tL_low (zflag hC) 10 N v7 9 M123) lkW_108 rfl dL_law_571 (Nat.le_of_ble_eq_true rfl) (fun r124 M125 er124 => ?_)
  refine zg_iadd hC dL_law_574 ?_
  refine zg_callWL hC hW0 hB (As := [.ref (ad 0), .int v8, .int r122, .int ((1 : Int32) + r124)]) (S := []) rfl (tL_deliver (zflag hC) 2 N v8 r122 ((1 : Int32) + r124) M125) lkW_138 rfl dL_law_575 (Nat.le_of_ble_eq_true rfl) (fun r126 M127 er126 => ?_)
  have hB128 := zB_step hB
  refine zg_istore hC (L' := [(12, _), (11, _), (0, _), (1, _), (2, _), (3, _), (4, _), (5, _), (6, _), (7, _), (8, _), (9, _)]) dL_law_578 (by decide) rfl ?_
  refine zg_iload hC 6 dL_law_580 rfl ?_
  refine zg_if_eq hC (tgt := 638) dL_law_582 (by decide) (fun c129 => ?_) (fun c129 => ?_)
  · exact zg_sub [2, 3, 4, 5, 7, 8, 10, 11] rfl (gL_law_B638 hC hX hW0 N hag65 (nb := nb) (zB_w hB128 (by omega)) v2 v3 v5 v6 v8 v9 M127)
  · refine zg_iload hC 0 dL_law_585 rfl ?_
    refine zg_bipush hC (v := (-3)) dL_law_587 (by decide) ?_
    refine zg_icmp_ne hC (tgt := 606) dL_law_589 (by decide) (fun c130 => ?_) (fun c130 => ?_)
    · refine zg_aload_n hC 3 dL_law_592 rfl ?_
      refine zg_iload hC 10 dL_law_593 rfl ?_
      refine zg_callVL hC hW0 hB128 (k := 0) (As := [.int v8]) (S := []) rfl (tX7_store (zflag hC) 3 N v8 M127) lkW_135 rfl dL_law_595 zq0 zk0 rfl rfl (Nat.le_of_ble_eq_true rfl) (fun r131 M132 er131 => ?_)
      refine zg_iload hC 1 dL_law_598 rfl ?_
      refine zg_icmp_ne hC (tgt := 638) dL_law_600 (by decide) (fun c133 => ?_) (fun c133 => ?_)
      · refine zg_goto hC (tgt := 634) dL_law_603 (by decide) ?_
        exact zg_sub [2, 3, 4, 5, 7, 8, 10, 11] rfl (gL_law_B634 hC hX hW0 N hag65 (nb := nb) (zB_w hB128 (by omega)) v2 v3 v5 v6 v8 v9 M132)
      · exact zg_sub [2, 3, 4, 5, 7, 8, 10, 11] rfl (gL_law_B638 hC hX hW0 N hag65 (nb := nb) (zB_w hB128 (by omega)) v2 v3 v5 v6 v8 v9 M132)
    · refine zg_aload_n hC 3 dL_law_606 rfl ?_
      refine zg_iload hC 10 dL_law_607 rfl ?_
      refine zg_callVL hC hW0 hB128 (k := 0) (As := [.int v8]) (S := []) rfl (tX7_store (zflag hC) 3 N v8 M127) lkW_135 rfl dL_law_609 zq0 zk0 rfl rfl (Nat.le_of_ble_eq_true rfl) (fun r134 M135 er134 => ?_)
      refine zg_iload hC 0 dL_law_612 rfl ?_
      refine zg_icmp_ne hC (tgt := 638) dL_law_614 (by decide) (fun c136 => ?_) (fun c136 => ?_)
      · refine zg_iload hC 0 dL_law_617 rfl ?_
        refine zg_iload hC 1 dL_law_619 rfl ?_
        refine zg_iconst hC (v := 1) dL_law_621 (by decide) ?_
        refine zg_iadd hC dL_law_622 ?_
        refine zg_iload hC 9 dL_law_623 rfl ?_
        refine zg_bipush hC (v := 9) dL_law_625 (by decide) ?_
        refine zg_callSL hC hW0 hB128 (As := [.int v7, .int 9]) (S := [.int (r120 + 1), .int r126]) rfl (tL_low (zflag hC) 10 N v7 9 M135) lkW_108 rfl dL_law_627 (Nat.le_of_ble_eq_true rfl) (fun r137 M138 er137 => ?_)
        refine zg_iadd hC dL_law_630 ?_
        refine zg_icmp_ne hC (tgt := 638) dL_law_631 (by decide) (fun c139 => ?_) (fun c139 => ?_)
        · exact zg_sub [2, 3, 4, 5, 7, 8, 10, 11] rfl (gL_law_B634 hC hX hW0 N hag65 (nb := nb) (zB_w hB128 (by omega)) v2 v3 v5 v6 v8 v9 M138)
        · exact zg_sub [2, 3, 4, 5, 7, 8, 10, 11] rfl (gL_law_B638 hC hX hW0 N hag65 (nb := nb) (zB_w hB128 (by omega)) v2 v3 v5 v6 v8 v9 M138)
      · exact zg_sub [2, 3, 4, 5, 7, 8, 10, 11] rfl (gL_law_B638 hC hX hW0 N hag65 (nb := nb) (zB_w hB128 (by omega)) v2 v3 v5 v6 v8 v9 M135)
set_option maxRecDepth 20000 in
set_option maxHeartbeats 4000000 in
theorem gL_law_B541 {l : Launch} {Z : zZ} {ad : Nat → Nat} {X : zX} {b Ls : Nat} {xs : Nat → Int32} (hC : zC l Z zfull ad X RL cL_law 14 ret 11) (hX : zScr X b Ls xs) (hW0 : zLaw X b) (N : Nat) {nb : Nat} {cs : Nat × Nat} {again65 : Int32 → Int32 → Int32 → Int32 → Int32 → zMem → zRES} (hag65 : ∀ (cs : Nat × Nat), zB (2 * nb) cs → ∀ (v2 : Int32) (v3 : Int32) (v4 : Int32) (v5 : Int32) (v6 : Int32) (M : zMem), zG l Z zfull ad X cs 65 [(0, .ref b), (1, .ref (ad 0)), (2, .int v2), (3, .int v3), (4, .int v4), (5, .int v5), (6, .int v6)] [] M (again65 v2 v3 v4 v5 v6 M)) (hB : zB (2 * nb + 1) cs) (v2 : Int32) (v3 : Int32) (v5 : Int32) (v6 : Int32) (v7 : Int32) (v8 : Int32) (v9 : Int32) (s0 : Int32) (M : zMem) : zG l Z zfull ad X cs 541 [(0, .ref b), (1, .ref (ad 0)), (2, .int v2), (3, .int v3), (5, .int v5), (6, .int v6), (7, .int v7), (8, .int v8), (9, .int v9)] [.int s0] M (fL_law_B541 Ls xs N again65 v2 v3 v5 v6 v7 v8 v9 s0 M) := by
  unfold fL_law_B541
  refine zg_istore hC (L' := [(4, _), (0, _), (1, _), (2, _), (3, _), (5, _), (6, _), (7, _), (8, _), (9, _)]) dL_law_541 (by decide) rfl ?_
  refine zg_iinc hC 3 (v := v2 + 1) (L' := [(2, _), (4, _), (0, _), (1, _), (3, _), (5, _), (6, _), (7, _), (8, _), (9, _)]) dL_law_543 rfl (by rfl) (by decide) rfl ?_
  exact zg_sub [2, 3, 0, 4, 1, 5, 6, 7, 8, 9] rfl (gL_law_B546 hC hX hW0 N hag65 (nb := nb) (zB_w hB (by omega)) (v2 + 1) v3 s0 v5 v6 v7 v8 v9 M)
set_option maxRecDepth 20000 in
set_option maxHeartbeats 4000000 in
theorem gL_law_B528 {l : Launch} {Z : zZ} {ad : Nat → Nat} {X : zX} {b Ls : Nat} {xs : Nat → Int32} (hC : zC l Z zfull ad X RL cL_law 14 ret 11) (hX : zScr X b Ls xs) (hW0 : zLaw X b) (N : Nat) {nb : Nat} {cs : Nat × Nat} {again65 : Int32 → Int32 → Int32 → Int32 → Int32 → zMem → zRES} (hag65 : ∀ (cs : Nat × Nat), zB (2 * nb) cs → ∀ (v2 : Int32) (v3 : Int32) (v4 : Int32) (v5 : Int32) (v6 : Int32) (M : zMem), zG l Z zfull ad X cs 65 [(0, .ref b), (1, .ref (ad 0)), (2, .int v2), (3, .int v3), (4, .int v4), (5, .int v5), (6, .int v6)] [] M (again65 v2 v3 v4 v5 v6 M)) (hB : zB (2 * nb + 1) cs) (v2 : Int32) (v3 : Int32) (v5 : Int32) (v6 : Int32) (v7 : Int32) (v8 : Int32) (v9 : Int32) (M : zMem) : zG l Z zfull ad X cs 528 [(0, .ref b), (1, .ref (ad 0)), (2, .int v2), (3, .int v3), (5, .int v5), (6, .int v6), (7, .int v7), (8, .int v8), (9, .int v9)] [] M (fL_law_B528 Ls xs N again65 v2 v3 v5 v6 v7 v8 v9 M) := by
  unfold fL_law_B528
  refine zg_aload_n hC 1 dL_law_528 rfl ?_
  refine zg_callVL hC hW0 hB (k := 0) (As := []) (S := []) rfl (tX7_addLot (zflag hC) 4 N M) lkW_132 rfl dL_law_529 zq0 zk0 rfl rfl (Nat.le_of_ble_eq_true rfl) (fun r117 M118 er117 => ?_)
  refine zg_iload_n hC 2 dL_law_532 rfl ?_
  refine zg_icmp_ne hC (tgt := 540) dL_law_533 (by decide) (fun c119 => ?_) (fun c119 => ?_)
  · refine zg_iconst hC (v := 1) dL_law_536 (by decide) ?_
    refine zg_goto hC (tgt := 541) dL_law_537 (by decide) ?_
    exact zg_sub [0, 1, 2, 3, 4, 5, 6, 7, 8] rfl (gL_law_B541 hC hX hW0 N hag65 (nb := nb) (zB_w hB (by omega)) v2 v3 v5 v6 v7 v8 v9 1 M118)
  · refine zg_iconst hC (v := 0) dL_law_540 (by decide) ?_
    exact zg_sub [0, 1, 2, 3, 4, 5, 6, 7, 8] rfl (gL_law_B541 hC hX hW0 N hag65 (nb := nb) (zB_w hB (by omega)) v2 v3 v5 v6 v7 v8 v9 0 M118)
set_option maxRecDepth 20000 in
set_option maxHeartbeats 4000000 in
theorem gL_law_B509 {l : Launch} {Z : zZ} {ad : Nat → Nat} {X : zX} {b Ls : Nat} {xs : Nat → Int32} (hC : zC l Z zfull ad X RL cL_law 14 ret 11) (hX : zScr X b Ls xs) (hW0 : zLaw X b) (N : Nat) {nb : Nat} {cs : Nat × Nat} {again65 : Int32 → Int32 → Int32 → Int32 → Int32 → zMem → zRES} (hag65 : ∀ (cs : Nat × Nat), zB (2 * nb) cs → ∀ (v2 : Int32) (v3 : Int32) (v4 : Int32) (v5 : Int32) (v6 : Int32) (M : zMem), zG l Z zfull ad X cs 65 [(0, .ref b), (1, .ref (ad 0)), (2, .int v2), (3, .int v3), (4, .int v4), (5, .int v5), (6, .int v6)] [] M (again65 v2 v3 v4 v5 v6 M)) (hB : zB (2 * nb + 1) cs) (v2 : Int32) (v3 : Int32) (v4 : Int32) (v5 : Int32) (v6 : Int32) (v7 : Int32) (v8 : Int32) (v9 : Int32) (M : zMem) : zG l Z zfull ad X cs 509 [(0, .ref b), (1, .ref (ad 0)), (2, .int v2), (3, .int v3), (4, .int v4), (5, .int v5), (6, .int v6), (7, .int v7), (8, .int v8), (9, .int v9)] [] M (fL_law_B509 Ls xs N again65 v2 v3 v4 v5 v6 v7 v8 v9 M) := by
  unfold fL_law_B509
  refine zg_iload_n hC 2 dL_law_509 rfl ?_
  refine zg_bipush hC (v := 16) dL_law_510 (by decide) ?_
  refine zg_icmp_ge hC (tgt := 546) dL_law_512 (by decide) (fun c112 => ?_) (fun c112 => ?_)
  · exact zg_sub [0, 1, 2, 3, 4, 5, 6, 7, 8, 9] rfl (gL_law_B546 hC hX hW0 N hag65 (nb := nb) (zB_w hB (by omega)) v2 v3 v4 v5 v6 v7 v8 v9 M)
  · refine zg_iload_n hC 2 dL_law_515 rfl ?_
    refine zg_if_eq hC (tgt := 528) dL_law_516 (by decide) (fun c113 => ?_) (fun c113 => ?_)
    · exact zg_sub [0, 1, 2, 3, 5, 6, 7, 8, 9] rfl (gL_law_B528 hC hX hW0 N hag65 (nb := nb) (zB_w hB (by omega)) v2 v3 v5 v6 v7 v8 v9 M)
    · refine zg_iload hC 7 dL_law_519 rfl ?_
      refine zg_iconst hC (v := 4) dL_law_521 (by decide) ?_
      refine zg_callSL hC hW0 hB (As := [.int v7, .int 4]) (S := []) rfl (tL_low (zflag hC) 10 N v7 4 M) lkW_108 rfl dL_law_522 (Nat.le_of_ble_eq_true rfl) (fun r114 M115 er114 => ?_)
      refine zg_if_ne hC (tgt := 546) dL_law_525 (by decide) (fun c116 => ?_) (fun c116 => ?_)
      · exact zg_sub [0, 1, 2, 3, 5, 6, 7, 8, 9] rfl (gL_law_B528 hC hX hW0 N hag65 (nb := nb) (zB_w hB (by omega)) v2 v3 v5 v6 v7 v8 v9 M115)
      · exact zg_sub [0, 1, 2, 3, 4, 5, 6, 7, 8, 9] rfl (gL_law_B546 hC hX hW0 N hag65 (nb := nb) (zB_w hB (by omega)) v2 v3 v4 v5 v6 v7 v8 v9 M115)
set_option maxRecDepth 20000 in
set_option maxHeartbeats 4000000 in
theorem gL_law_B497 {l : Launch} {Z : zZ} {ad : Nat → Nat} {X : zX} {b Ls : Nat} {xs : Nat → Int32} (hC : zC l Z zfull ad X RL cL_law 14 ret 11) (hX : zScr X b Ls xs) (hW0 : zLaw X b) (N : Nat) {nb : Nat} {cs : Nat × Nat} {again65 : Int32 → Int32 → Int32 → Int32 → Int32 → zMem → zRES} (hag65 : ∀ (cs : Nat × Nat), zB (2 * nb) cs → ∀ (v2 : Int32) (v3 : Int32) (v4 : Int32) (v5 : Int32) (v6 : Int32) (M : zMem), zG l Z zfull ad X cs 65 [(0, .ref b), (1, .ref (ad 0)), (2, .int v2), (3, .int v3), (4, .int v4), (5, .int v5), (6, .int v6)] [] M (again65 v2 v3 v4 v5 v6 M)) (hB : zB (2 * nb + 0) cs) (v2 : Int32) (v3 : Int32) (v5 : Int32) (v6 : Int32) (v8 : Int32) (v9 : Int32) (s0 : Int32) (M : zMem) : zG l Z zfull ad X cs 497 [(0, .ref b), (1, .ref (ad 0)), (2, .int v2), (3, .int v3), (5, .int v5), (6, .int v6), (8, .int v8), (9, .int v9)] [.int s0] M (fL_law_B497 Ls xs N again65 v2 v3 v5 v6 v8 v9 s0 M) := by
  unfold fL_law_B497
  refine zg_istore hC (L' := [(4, _), (0, _), (1, _), (2, _), (3, _), (5, _), (6, _), (8, _), (9, _)]) dL_law_497 (by decide) rfl ?_
  refine zg_goto hC (tgt := 1019) dL_law_499 (by decide) ?_
  exact zg_sub [1, 2, 3, 4, 0, 5, 6, 7, 8] rfl (gL_law_B1019 hC hX hW0 N hag65 (nb := nb) (zB_w hB (by omega)) v2 v3 s0 v5 v6 v8 v9 M)
set_option maxRecDepth 20000 in
set_option maxHeartbeats 4000000 in
theorem gL_law_B496 {l : Launch} {Z : zZ} {ad : Nat → Nat} {X : zX} {b Ls : Nat} {xs : Nat → Int32} (hC : zC l Z zfull ad X RL cL_law 14 ret 11) (hX : zScr X b Ls xs) (hW0 : zLaw X b) (N : Nat) {nb : Nat} {cs : Nat × Nat} {again65 : Int32 → Int32 → Int32 → Int32 → Int32 → zMem → zRES} (hag65 : ∀ (cs : Nat × Nat), zB (2 * nb) cs → ∀ (v2 : Int32) (v3 : Int32) (v4 : Int32) (v5 : Int32) (v6 : Int32) (M : zMem), zG l Z zfull ad X cs 65 [(0, .ref b), (1, .ref (ad 0)), (2, .int v2), (3, .int v3), (4, .int v4), (5, .int v5), (6, .int v6)] [] M (again65 v2 v3 v4 v5 v6 M)) (hB : zB (2 * nb + 0) cs) (v2 : Int32) (v3 : Int32) (v5 : Int32) (v6 : Int32) (v8 : Int32) (v9 : Int32) (M : zMem) : zG l Z zfull ad X cs 496 [(0, .ref b), (1, .ref (ad 0)), (2, .int v2), (3, .int v3), (5, .int v5), (6, .int v6), (8, .int v8), (9, .int v9)] [] M (fL_law_B496 Ls xs N again65 v2 v3 v5 v6 v8 v9 M) := by
  unfold fL_law_B496
  refine zg_iconst hC (v := 0) dL_law_496 (by decide) ?_
  exact zg_sub [0, 1, 2, 3, 4, 5, 6, 7] rfl (gL_law_B497 hC hX hW0 N hag65 (nb := nb) (zB_w hB (by omega)) v2 v3 v5 v6 v8 v9 0 M)
set_option maxRecDepth 20000 in
set_option maxHeartbeats 4000000 in
theorem gL_law_B475 {l : Launch} {Z : zZ} {ad : Nat → Nat} {X : zX} {b Ls : Nat} {xs : Nat → Int32} (hC : zC l Z zfull ad X RL cL_law 14 ret 11) (hX : zScr X b Ls xs) (hW0 : zLaw X b) (N : Nat) {nb : Nat} {cs : Nat × Nat} {again65 : Int32 → Int32 → Int32 → Int32 → Int32 → zMem → zRES} (hag65 : ∀ (cs : Nat × Nat), zB (2 * nb) cs → ∀ (v2 : Int32) (v3 : Int32) (v4 : Int32) (v5 : Int32) (v6 : Int32) (M : zMem), zG l Z zfull ad X cs 65 [(0, .ref b), (1, .ref (ad 0)), (2, .int v2), (3, .int v3), (4, .int v4), (5, .int v5), (6, .int v6)] [] M (again65 v2 v3 v4 v5 v6 M)) (hB : zB (2 * nb + 0) cs) (v2 : Int32) (v3 : Int32) (v5 : Int32) (v6 : Int32) (v8 : Int32) (v9 : Int32) (s1 : Int32) (M : zMem) : zG l Z zfull ad X cs 475 [(0, .ref b), (1, .ref (ad 0)), (2, .int v2), (3, .int v3), (5, .int v5), (6, .int v6), (8, .int v8), (9, .int v9)] [.int s1, .ref (ad 0)] M (fL_law_B475 Ls xs N again65 v2 v3 v5 v6 v8 v9 s1 M) := by
  unfold fL_law_B475
  refine zg_callVL hC hW0 hB (k := 0) (As := [.int s1]) (S := []) rfl (tX7_part (zflag hC) 4 N s1 M) lkW_126 rfl dL_law_475 zq0 zk0 rfl rfl (Nat.le_of_ble_eq_true rfl) (fun r106 M107 er106 => ?_)
  refine zg_if_lt hC (tgt := 496) dL_law_478 (by decide) (fun c108 => ?_) (fun c108 => ?_)
  · exact zg_sub [0, 1, 2, 3, 4, 5, 6, 7] rfl (gL_law_B496 hC hX hW0 N hag65 (nb := nb) (zB_w hB (by omega)) v2 v3 v5 v6 v8 v9 M107)
  · refine zg_aload_n hC 1 dL_law_481 rfl ?_
    refine zg_iload hC 6 dL_law_482 rfl ?_
    refine zg_iload hC 6 dL_law_484 rfl ?_
    refine zg_callVL hC hW0 hB (k := 0) (As := [.int v8, .int v8]) (S := []) rfl (tX7_reach (zflag hC) 3 N v8 v8 M107) lkW_129 rfl dL_law_486 zq0 zk0 rfl rfl (Nat.le_of_ble_eq_true rfl) (fun r109 M110 er109 => ?_)
    refine zg_if_eq hC (tgt := 496) dL_law_489 (by decide) (fun c111 => ?_) (fun c111 => ?_)
    · exact zg_sub [0, 1, 2, 3, 4, 5, 6, 7] rfl (gL_law_B496 hC hX hW0 N hag65 (nb := nb) (zB_w hB (by omega)) v2 v3 v5 v6 v8 v9 M110)
    · refine zg_iconst hC (v := 1) dL_law_492 (by decide) ?_
      refine zg_goto hC (tgt := 497) dL_law_493 (by decide) ?_
      exact zg_sub [0, 1, 2, 3, 4, 5, 6, 7] rfl (gL_law_B497 hC hX hW0 N hag65 (nb := nb) (zB_w hB (by omega)) v2 v3 v5 v6 v8 v9 1 M110)
set_option maxRecDepth 20000 in
set_option maxHeartbeats 4000000 in
theorem gL_law_B447 {l : Launch} {Z : zZ} {ad : Nat → Nat} {X : zX} {b Ls : Nat} {xs : Nat → Int32} (hC : zC l Z zfull ad X RL cL_law 14 ret 11) (hX : zScr X b Ls xs) (hW0 : zLaw X b) (N : Nat) {nb : Nat} {cs : Nat × Nat} {again65 : Int32 → Int32 → Int32 → Int32 → Int32 → zMem → zRES} (hag65 : ∀ (cs : Nat × Nat), zB (2 * nb) cs → ∀ (v2 : Int32) (v3 : Int32) (v4 : Int32) (v5 : Int32) (v6 : Int32) (M : zMem), zG l Z zfull ad X cs 65 [(0, .ref b), (1, .ref (ad 0)), (2, .int v2), (3, .int v3), (4, .int v4), (5, .int v5), (6, .int v6)] [] M (again65 v2 v3 v4 v5 v6 M)) (hB : zB (2 * nb + 0) cs) (v2 : Int32) (v3 : Int32) (v5 : Int32) (v6 : Int32) (v7 : Int32) (v8 : Int32) (v9 : Int32) (M : zMem) : zG l Z zfull ad X cs 447 [(0, .ref b), (1, .ref (ad 0)), (2, .int v2), (3, .int v3), (5, .int v5), (6, .int v6), (7, .int v7), (8, .int v8), (9, .int v9)] [] M (fL_law_B447 Ls xs N again65 v2 v3 v5 v6 v7 v8 v9 M) := by
  unfold fL_law_B447
  refine zg_iload hC 6 dL_law_447 rfl ?_
  refine zg_bipush hC (v := 32) dL_law_449 (by decide) ?_
  refine zg_callSL hC hW0 hB (As := [.int v7, .int 32]) (S := []) rfl (tL_low (zflag hC) 10 N v7 32 M) lkW_108 rfl dL_law_451 (Nat.le_of_ble_eq_true rfl) (fun r101 M102 er101 => ?_)
  refine zg_istore hC (L' := [(11, _), (0, _), (1, _), (2, _), (3, _), (5, _), (6, _), (7, _), (8, _), (9, _)]) dL_law_454 (by decide) rfl ?_
  refine zg_aload_n hC 2 dL_law_456 rfl ?_
  refine zg_iload hC 7 dL_law_457 rfl ?_
  refine zg_bipush hC (v := 9) dL_law_459 (by decide) ?_
  refine zg_ishr hC dL_law_461 ?_
  refine zg_iconst hC (v := 3) dL_law_462 (by decide) ?_
  refine zg_callSL hC hW0 hB (As := [.int (v7 >>> (9 &&& 31)), .int 3]) (S := [.ref (ad 0)]) rfl (tL_low (zflag hC) 10 N (v7 >>> (9 &&& 31)) 3 M102) lkW_108 rfl dL_law_463 (Nat.le_of_ble_eq_true rfl) (fun r103 M104 er103 => ?_)
  refine zg_if_ne hC (tgt := 474) dL_law_466 (by decide) (fun c105 => ?_) (fun c105 => ?_)
  · refine zg_iload hC 0 dL_law_469 rfl ?_
    refine zg_goto hC (tgt := 475) dL_law_471 (by decide) ?_
    exact zg_sub [1, 2, 3, 4, 5, 6, 8, 9] rfl (gL_law_B475 hC hX hW0 N hag65 (nb := nb) (zB_w hB (by omega)) v2 v3 v5 v6 v8 v9 r101 M104)
  · refine zg_iconst hC (v := 0) dL_law_474 (by decide) ?_
    exact zg_sub [1, 2, 3, 4, 5, 6, 8, 9] rfl (gL_law_B475 hC hX hW0 N hag65 (nb := nb) (zB_w hB (by omega)) v2 v3 v5 v6 v8 v9 0 M104)
set_option maxRecDepth 20000 in
set_option maxHeartbeats 4000000 in
theorem gL_law_B435 {l : Launch} {Z : zZ} {ad : Nat → Nat} {X : zX} {b Ls : Nat} {xs : Nat → Int32} (hC : zC l Z zfull ad X RL cL_law 14 ret 11) (hX : zScr X b Ls xs) (hW0 : zLaw X b) (N : Nat) {nb : Nat} {cs : Nat × Nat} {again65 : Int32 → Int32 → Int32 → Int32 → Int32 → zMem → zRES} (hag65 : ∀ (cs : Nat × Nat), zB (2 * nb) cs → ∀ (v2 : Int32) (v3 : Int32) (v4 : Int32) (v5 : Int32) (v6 : Int32) (M : zMem), zG l Z zfull ad X cs 65 [(0, .ref b), (1, .ref (ad 0)), (2, .int v2), (3, .int v3), (4, .int v4), (5, .int v5), (6, .int v6)] [] M (again65 v2 v3 v4 v5 v6 M)) (hB : zB (2 * nb + 0) cs) (v2 : Int32) (v3 : Int32) (v5 : Int32) (v6 : Int32) (v8 : Int32) (v9 : Int32) (s0 : Int32) (M : zMem) : zG l Z zfull ad X cs 435 [(0, .ref b), (1, .ref (ad 0)), (2, .int v2), (3, .int v3), (5, .int v5), (6, .int v6), (8, .int v8), (9, .int v9)] [.int s0] M (fL_law_B435 Ls xs N again65 v2 v3 v5 v6 v8 v9 s0 M) := by
  unfold fL_law_B435
  refine zg_istore hC (L' := [(4, _), (0, _), (1, _), (2, _), (3, _), (5, _), (6, _), (8, _), (9, _)]) dL_law_435 (by decide) rfl ?_
  refine zg_goto hC (tgt := 1019) dL_law_437 (by decide) ?_
  exact zg_sub [1, 2, 3, 4, 0, 5, 6, 7, 8] rfl (gL_law_B1019 hC hX hW0 N hag65 (nb := nb) (zB_w hB (by omega)) v2 v3 s0 v5 v6 v8 v9 M)
set_option maxRecDepth 20000 in
set_option maxHeartbeats 4000000 in
theorem gL_law_B434 {l : Launch} {Z : zZ} {ad : Nat → Nat} {X : zX} {b Ls : Nat} {xs : Nat → Int32} (hC : zC l Z zfull ad X RL cL_law 14 ret 11) (hX : zScr X b Ls xs) (hW0 : zLaw X b) (N : Nat) {nb : Nat} {cs : Nat × Nat} {again65 : Int32 → Int32 → Int32 → Int32 → Int32 → zMem → zRES} (hag65 : ∀ (cs : Nat × Nat), zB (2 * nb) cs → ∀ (v2 : Int32) (v3 : Int32) (v4 : Int32) (v5 : Int32) (v6 : Int32) (M : zMem), zG l Z zfull ad X cs 65 [(0, .ref b), (1, .ref (ad 0)), (2, .int v2), (3, .int v3), (4, .int v4), (5, .int v5), (6, .int v6)] [] M (again65 v2 v3 v4 v5 v6 M)) (hB : zB (2 * nb + 0) cs) (v2 : Int32) (v3 : Int32) (v5 : Int32) (v6 : Int32) (v8 : Int32) (v9 : Int32) (M : zMem) : zG l Z zfull ad X cs 434 [(0, .ref b), (1, .ref (ad 0)), (2, .int v2), (3, .int v3), (5, .int v5), (6, .int v6), (8, .int v8), (9, .int v9)] [] M (fL_law_B434 Ls xs N again65 v2 v3 v5 v6 v8 v9 M) := by
  unfold fL_law_B434
  refine zg_iconst hC (v := 0) dL_law_434 (by decide) ?_
  exact zg_sub [0, 1, 2, 3, 4, 5, 6, 7] rfl (gL_law_B435 hC hX hW0 N hag65 (nb := nb) (zB_w hB (by omega)) v2 v3 v5 v6 v8 v9 0 M)
set_option maxRecDepth 20000 in
set_option maxHeartbeats 4000000 in
theorem gL_law_B430 {l : Launch} {Z : zZ} {ad : Nat → Nat} {X : zX} {b Ls : Nat} {xs : Nat → Int32} (hC : zC l Z zfull ad X RL cL_law 14 ret 11) (hX : zScr X b Ls xs) (hW0 : zLaw X b) (N : Nat) {nb : Nat} {cs : Nat × Nat} {again65 : Int32 → Int32 → Int32 → Int32 → Int32 → zMem → zRES} (hag65 : ∀ (cs : Nat × Nat), zB (2 * nb) cs → ∀ (v2 : Int32) (v3 : Int32) (v4 : Int32) (v5 : Int32) (v6 : Int32) (M : zMem), zG l Z zfull ad X cs 65 [(0, .ref b), (1, .ref (ad 0)), (2, .int v2), (3, .int v3), (4, .int v4), (5, .int v5), (6, .int v6)] [] M (again65 v2 v3 v4 v5 v6 M)) (hB : zB (2 * nb + 0) cs) (v2 : Int32) (v3 : Int32) (v5 : Int32) (v6 : Int32) (v8 : Int32) (v9 : Int32) (M : zMem) : zG l Z zfull ad X cs 430 [(0, .ref b), (1, .ref (ad 0)), (2, .int v2), (3, .int v3), (5, .int v5), (6, .int v6), (8, .int v8), (9, .int v9)] [] M (fL_law_B430 Ls xs N again65 v2 v3 v5 v6 v8 v9 M) := by
  unfold fL_law_B430
  refine zg_iconst hC (v := 1) dL_law_430 (by decide) ?_
  refine zg_goto hC (tgt := 435) dL_law_431 (by decide) ?_
  exact zg_sub [0, 1, 2, 3, 4, 5, 6, 7] rfl (gL_law_B435 hC hX hW0 N hag65 (nb := nb) (zB_w hB (by omega)) v2 v3 v5 v6 v8 v9 1 M)
set_option maxRecDepth 20000 in
set_option maxHeartbeats 4000000 in
theorem gL_law_B389 {l : Launch} {Z : zZ} {ad : Nat → Nat} {X : zX} {b Ls : Nat} {xs : Nat → Int32} (hC : zC l Z zfull ad X RL cL_law 14 ret 11) (hX : zScr X b Ls xs) (hW0 : zLaw X b) (N : Nat) {nb : Nat} {cs : Nat × Nat} {again65 : Int32 → Int32 → Int32 → Int32 → Int32 → zMem → zRES} (hag65 : ∀ (cs : Nat × Nat), zB (2 * nb) cs → ∀ (v2 : Int32) (v3 : Int32) (v4 : Int32) (v5 : Int32) (v6 : Int32) (M : zMem), zG l Z zfull ad X cs 65 [(0, .ref b), (1, .ref (ad 0)), (2, .int v2), (3, .int v3), (4, .int v4), (5, .int v5), (6, .int v6)] [] M (again65 v2 v3 v4 v5 v6 M)) (hB : zB (2 * nb + 2) cs) (v2 : Int32) (v3 : Int32) (v5 : Int32) (v6 : Int32) (v8 : Int32) (v9 : Int32) (M : zMem) : zG l Z zfull ad X cs 389 [(0, .ref b), (1, .ref (ad 0)), (2, .int v2), (3, .int v3), (5, .int v5), (6, .int v6), (8, .int v8), (9, .int v9)] [] M (fL_law_B389 Ls xs N again65 v2 v3 v5 v6 v8 v9 M) := by
  unfold fL_law_B389
  refine zg_aload_n hC 1 dL_law_389 rfl ?_
  refine zg_iload hC 6 dL_law_390 rfl ?_
  refine zg_iload hC 7 dL_law_392 rfl ?_
  refine zg_callWL hC hW0 hB (As := [.ref (ad 0), .int v8, .int v9]) (S := []) rfl (tL_tell (zflag hC) 1 N v8 v9 M) lkW_123 rfl dL_law_394 (Nat.le_of_ble_eq_true rfl) (fun r88 M89 er88 => ?_)
  have hB90 := zB_step hB
  refine zg_istore hC (L' := [(11, _), (0, _), (1, _), (2, _), (3, _), (5, _), (6, _), (8, _), (9, _)]) dL_law_397 (by decide) rfl ?_
  refine zg_iload hC 0 dL_law_399 rfl ?_
  refine zg_if_lt hC (tgt := 430) dL_law_401 (by decide) (fun c91 => ?_) (fun c91 => ?_)
  · exact zg_sub [1, 2, 3, 4, 5, 6, 7, 8] rfl (gL_law_B430 hC hX hW0 N hag65 (nb := nb) (zB_w hB90 (by omega)) v2 v3 v5 v6 v8 v9 M89)
  · refine zg_aload_n hC 2 dL_law_404 rfl ?_
    refine zg_iload hC 8 dL_law_405 rfl ?_
    refine zg_callVL hC hW0 hB90 (k := 0) (As := [.int v9]) (S := []) rfl (tX7_entries (zflag hC) 3 N v9 M89) lkW_48 rfl dL_law_407 zq0 zk0 rfl rfl (Nat.le_of_ble_eq_true rfl) (fun r92 M93 er92 => ?_)
    refine zg_aload_n hC 2 dL_law_410 rfl ?_
    refine zg_iload hC 7 dL_law_411 rfl ?_
    refine zg_callVL hC hW0 hB90 (k := 0) (As := [.int v8]) (S := [.int r92]) rfl (tX7_entries (zflag hC) 3 N v8 M93) lkW_48 rfl dL_law_413 zq0 zk0 rfl rfl (Nat.le_of_ble_eq_true rfl) (fun r94 M95 er94 => ?_)
    refine zg_icmp_lt hC (tgt := 434) dL_law_416 (by decide) (fun c96 => ?_) (fun c96 => ?_)
    · exact zg_sub [1, 2, 3, 4, 5, 6, 7, 8] rfl (gL_law_B434 hC hX hW0 N hag65 (nb := nb) (zB_w hB90 (by omega)) v2 v3 v5 v6 v8 v9 M95)
    · refine zg_aload_n hC 2 dL_law_419 rfl ?_
      refine zg_iload hC 7 dL_law_420 rfl ?_
      refine zg_iload hC 8 dL_law_422 rfl ?_
      refine zg_callWL hC hW0 hB90 (As := [.ref (ad 0), .int v8, .int v9]) (S := []) rfl (tL_tell (zflag hC) 1 N v8 v9 M95) lkW_123 rfl dL_law_424 (Nat.le_of_ble_eq_true rfl) (fun r97 M98 er97 => ?_)
      have hB99 := zB_step hB90
      refine zg_if_ne hC (tgt := 434) dL_law_427 (by decide) (fun c100 => ?_) (fun c100 => ?_)
      · exact zg_sub [1, 2, 3, 4, 5, 6, 7, 8] rfl (gL_law_B430 hC hX hW0 N hag65 (nb := nb) (zB_w hB99 (by omega)) v2 v3 v5 v6 v8 v9 M98)
      · exact zg_sub [1, 2, 3, 4, 5, 6, 7, 8] rfl (gL_law_B434 hC hX hW0 N hag65 (nb := nb) (zB_w hB99 (by omega)) v2 v3 v5 v6 v8 v9 M98)
set_option maxRecDepth 20000 in
set_option maxHeartbeats 4000000 in
theorem gL_law_B377 {l : Launch} {Z : zZ} {ad : Nat → Nat} {X : zX} {b Ls : Nat} {xs : Nat → Int32} (hC : zC l Z zfull ad X RL cL_law 14 ret 11) (hX : zScr X b Ls xs) (hW0 : zLaw X b) (N : Nat) {nb : Nat} {cs : Nat × Nat} {again65 : Int32 → Int32 → Int32 → Int32 → Int32 → zMem → zRES} (hag65 : ∀ (cs : Nat × Nat), zB (2 * nb) cs → ∀ (v2 : Int32) (v3 : Int32) (v4 : Int32) (v5 : Int32) (v6 : Int32) (M : zMem), zG l Z zfull ad X cs 65 [(0, .ref b), (1, .ref (ad 0)), (2, .int v2), (3, .int v3), (4, .int v4), (5, .int v5), (6, .int v6)] [] M (again65 v2 v3 v4 v5 v6 M)) (hB : zB (2 * nb + 0) cs) (v2 : Int32) (v3 : Int32) (v5 : Int32) (v6 : Int32) (v8 : Int32) (v9 : Int32) (s0 : Int32) (M : zMem) : zG l Z zfull ad X cs 377 [(0, .ref b), (1, .ref (ad 0)), (2, .int v2), (3, .int v3), (5, .int v5), (6, .int v6), (8, .int v8), (9, .int v9)] [.int s0] M (fL_law_B377 Ls xs N again65 v2 v3 v5 v6 v8 v9 s0 M) := by
  unfold fL_law_B377
  refine zg_istore hC (L' := [(4, _), (0, _), (1, _), (2, _), (3, _), (5, _), (6, _), (8, _), (9, _)]) dL_law_377 (by decide) rfl ?_
  refine zg_goto hC (tgt := 1019) dL_law_379 (by decide) ?_
  exact zg_sub [1, 2, 3, 4, 0, 5, 6, 7, 8] rfl (gL_law_B1019 hC hX hW0 N hag65 (nb := nb) (zB_w hB (by omega)) v2 v3 s0 v5 v6 v8 v9 M)
set_option maxRecDepth 20000 in
set_option maxHeartbeats 4000000 in
theorem gL_law_B376 {l : Launch} {Z : zZ} {ad : Nat → Nat} {X : zX} {b Ls : Nat} {xs : Nat → Int32} (hC : zC l Z zfull ad X RL cL_law 14 ret 11) (hX : zScr X b Ls xs) (hW0 : zLaw X b) (N : Nat) {nb : Nat} {cs : Nat × Nat} {again65 : Int32 → Int32 → Int32 → Int32 → Int32 → zMem → zRES} (hag65 : ∀ (cs : Nat × Nat), zB (2 * nb) cs → ∀ (v2 : Int32) (v3 : Int32) (v4 : Int32) (v5 : Int32) (v6 : Int32) (M : zMem), zG l Z zfull ad X cs 65 [(0, .ref b), (1, .ref (ad 0)), (2, .int v2), (3, .int v3), (4, .int v4), (5, .int v5), (6, .int v6)] [] M (again65 v2 v3 v4 v5 v6 M)) (hB : zB (2 * nb + 0) cs) (v2 : Int32) (v3 : Int32) (v5 : Int32) (v6 : Int32) (v8 : Int32) (v9 : Int32) (M : zMem) : zG l Z zfull ad X cs 376 [(0, .ref b), (1, .ref (ad 0)), (2, .int v2), (3, .int v3), (5, .int v5), (6, .int v6), (8, .int v8), (9, .int v9)] [] M (fL_law_B376 Ls xs N again65 v2 v3 v5 v6 v8 v9 M) := by
  unfold fL_law_B376
  refine zg_iconst hC (v := 0) dL_law_376 (by decide) ?_
  exact zg_sub [0, 1, 2, 3, 4, 5, 6, 7] rfl (gL_law_B377 hC hX hW0 N hag65 (nb := nb) (zB_w hB (by omega)) v2 v3 v5 v6 v8 v9 0 M)
set_option maxRecDepth 20000 in
set_option maxHeartbeats 4000000 in
theorem gL_law_B267 {l : Launch} {Z : zZ} {ad : Nat → Nat} {X : zX} {b Ls : Nat} {xs : Nat → Int32} (hC : zC l Z zfull ad X RL cL_law 14 ret 11) (hX : zScr X b Ls xs) (hW0 : zLaw X b) (N : Nat) {nb : Nat} {cs : Nat × Nat} {again65 : Int32 → Int32 → Int32 → Int32 → Int32 → zMem → zRES} (hag65 : ∀ (cs : Nat × Nat), zB (2 * nb) cs → ∀ (v2 : Int32) (v3 : Int32) (v4 : Int32) (v5 : Int32) (v6 : Int32) (M : zMem), zG l Z zfull ad X cs 65 [(0, .ref b), (1, .ref (ad 0)), (2, .int v2), (3, .int v3), (4, .int v4), (5, .int v5), (6, .int v6)] [] M (again65 v2 v3 v4 v5 v6 M)) (hB : zB (2 * nb + 1) cs) (v2 : Int32) (v3 : Int32) (v5 : Int32) (v6 : Int32) (v7 : Int32) (v8 : Int32) (v9 : Int32) (M : zMem) : zG l Z zfull ad X cs 267 [(0, .ref b), (1, .ref (ad 0)), (2, .int v2), (3, .int v3), (5, .int v5), (6, .int v6), (7, .int v7), (8, .int v8), (9, .int v9)] [] M (fL_law_B267 Ls xs N again65 v2 v3 v5 v6 v7 v8 v9 M) := by
  unfold fL_law_B267
  refine zg_aload_n hC 1 dL_law_267 rfl ?_
  refine zg_callVL hC hW0 hB (k := 0) (As := []) (S := []) rfl (tX7_versions (zflag hC) 10 N M) lkW_117 rfl dL_law_268 zq0 zk0 rfl rfl (Nat.le_of_ble_eq_true rfl) (fun r64 M65 er64 => ?_)
  refine zg_istore hC (L' := [(11, _), (0, _), (1, _), (2, _), (3, _), (5, _), (6, _), (7, _), (8, _), (9, _)]) dL_law_271 (by decide) rfl ?_
  refine zg_aload_n hC 2 dL_law_273 rfl ?_
  refine zg_iload hC 8 dL_law_274 rfl ?_
  refine zg_iload hC 7 dL_law_276 rfl ?_
  refine zg_iconst hC (v := 2) dL_law_278 (by decide) ?_
  refine zg_callSL hC hW0 hB (As := [.int v7, .int 2]) (S := [.int v8, .ref (ad 0)]) rfl (tL_low (zflag hC) 10 N v7 2 M65) lkW_108 rfl dL_law_279 (Nat.le_of_ble_eq_true rfl) (fun r66 M67 er66 => ?_)
  refine zg_iconst hC (v := 1) dL_law_282 (by decide) ?_
  refine zg_iload hC 7 dL_law_283 rfl ?_
  refine zg_iconst hC (v := 5) dL_law_285 (by decide) ?_
  refine zg_ishr hC dL_law_286 ?_
  refine zg_iconst hC (v := 3) dL_law_287 (by decide) ?_
  refine zg_callSL hC hW0 hB (As := [.int (v7 >>> (5 &&& 31)), .int 3]) (S := [.int 1, .int r66, .int v8, .ref (ad 0)]) rfl (tL_low (zflag hC) 10 N (v7 >>> (5 &&& 31)) 3 M67) lkW_108 rfl dL_law_288 (Nat.le_of_ble_eq_true rfl) (fun r68 M69 er68 => ?_)
  refine zg_iadd hC dL_law_291 ?_
  refine zg_iconst hC (v := 1) dL_law_292 (by decide) ?_
  refine zg_iload hC 7 dL_law_293 rfl ?_
  refine zg_bipush hC (v := 8) dL_law_295 (by decide) ?_
  refine zg_ishr hC dL_law_297 ?_
  refine zg_bipush hC (v := 40) dL_law_298 (by decide) ?_
  refine zg_callSL hC hW0 hB (As := [.int (v7 >>> (8 &&& 31)), .int 40]) (S := [.int 1, .int ((1 : Int32) + r68), .int r66, .int v8, .ref (ad 0)]) rfl (tL_low (zflag hC) 10 N (v7 >>> (8 &&& 31)) 40 M69) lkW_108 rfl dL_law_300 (Nat.le_of_ble_eq_true rfl) (fun r70 M71 er70 => ?_)
  refine zg_iadd hC dL_law_303 ?_
  refine zg_callWL hC hW0 hB (As := [.ref (ad 0), .int v8, .int r66, .int ((1 : Int32) + r68), .int ((1 : Int32) + r70)]) (S := []) rfl (tL_propose (zflag hC) 2 N v8 r66 ((1 : Int32) + r68) ((1 : Int32) + r70) M71) lkW_120 rfl dL_law_304 (Nat.le_of_ble_eq_true rfl) (fun r72 M73 er72 => ?_)
  have hB74 := zB_step hB
  refine zg_istore hC (L' := [(12, _), (11, _), (0, _), (1, _), (2, _), (3, _), (5, _), (6, _), (7, _), (8, _), (9, _)]) dL_law_307 (by decide) rfl ?_
  refine zg_iload hC 0 dL_law_309 rfl ?_
  refine zg_bipush hC (v := (-3)) dL_law_311 (by decide) ?_
  refine zg_icmp_ne hC (tgt := 333) dL_law_313 (by decide) (fun c75 => ?_) (fun c75 => ?_)
  · refine zg_aload_n hC 3 dL_law_316 rfl ?_
    refine zg_callVL hC hW0 hB74 (k := 0) (As := []) (S := []) rfl (tX7_versions (zflag hC) 10 N M73) lkW_117 rfl dL_law_317 zq0 zk0 rfl rfl (Nat.le_of_ble_eq_true rfl) (fun r76 M77 er76 => ?_)
    refine zg_iload hC 1 dL_law_320 rfl ?_
    refine zg_icmp_ne hC (tgt := 329) dL_law_322 (by decide) (fun c78 => ?_) (fun c78 => ?_)
    · refine zg_iconst hC (v := 1) dL_law_325 (by decide) ?_
      refine zg_goto hC (tgt := 377) dL_law_326 (by decide) ?_
      exact zg_sub [2, 3, 4, 5, 6, 7, 9, 10] rfl (gL_law_B377 hC hX hW0 N hag65 (nb := nb) (zB_w hB74 (by omega)) v2 v3 v5 v6 v8 v9 1 M77)
    · refine zg_iconst hC (v := 0) dL_law_329 (by decide) ?_
      refine zg_goto hC (tgt := 377) dL_law_330 (by decide) ?_
      exact zg_sub [2, 3, 4, 5, 6, 7, 9, 10] rfl (gL_law_B377 hC hX hW0 N hag65 (nb := nb) (zB_w hB74 (by omega)) v2 v3 v5 v6 v8 v9 0 M77)
  · refine zg_iload hC 0 dL_law_333 rfl ?_
    refine zg_iload hC 1 dL_law_335 rfl ?_
    refine zg_icmp_ne hC (tgt := 376) dL_law_337 (by decide) (fun c79 => ?_) (fun c79 => ?_)
    · refine zg_aload_n hC 3 dL_law_340 rfl ?_
      refine zg_iload hC 9 dL_law_341 rfl ?_
      refine zg_aload_n hC 3 dL_law_343 rfl ?_
      refine zg_iload hC 9 dL_law_344 rfl ?_
      refine zg_callVL hC hW0 hB74 (k := 0) (As := [.int v8]) (S := [.int v8, .ref (ad 0)]) rfl (tX7_entries (zflag hC) 3 N v8 M73) lkW_48 rfl dL_law_346 zq0 zk0 rfl rfl (Nat.le_of_ble_eq_true rfl) (fun r80 M81 er80 => ?_)
      refine zg_iconst hC (v := 1) dL_law_349 (by decide) ?_
      refine zg_isub hC dL_law_350 ?_
      refine zg_callVL hC hW0 hB74 (k := 0) (As := [.int v8, .int (r80 - 1)]) (S := []) rfl (tX7_versionAt (zflag hC) 3 N v8 (r80 - 1) M81) lkW_51 rfl dL_law_351 zq0 zk0 rfl rfl (Nat.le_of_ble_eq_true rfl) (fun r82 M83 er82 => ?_)
      refine zg_iload hC 0 dL_law_354 rfl ?_
      refine zg_icmp_ne hC (tgt := 376) dL_law_356 (by decide) (fun c84 => ?_) (fun c84 => ?_)
      · refine zg_aload_n hC 3 dL_law_359 rfl ?_
        refine zg_iload hC 0 dL_law_360 rfl ?_
        refine zg_callVL hC hW0 hB74 (k := 0) (As := [.int r72]) (S := []) rfl (tX7_holders (zflag hC) 3 N r72 M83) lkW_54 rfl dL_law_362 zq0 zk0 rfl rfl (Nat.le_of_ble_eq_true rfl) (fun r85 M86 er85 => ?_)
        refine zg_iconst hC (v := 1) dL_law_365 (by decide) ?_
        refine zg_iload hC 9 dL_law_366 rfl ?_
        refine zg_ishl hC dL_law_368 ?_
        refine zg_icmp_ne hC (tgt := 376) dL_law_369 (by decide) (fun c87 => ?_) (fun c87 => ?_)
        · refine zg_iconst hC (v := 1) dL_law_372 (by decide) ?_
          refine zg_goto hC (tgt := 377) dL_law_373 (by decide) ?_
          exact zg_sub [2, 3, 4, 5, 6, 7, 9, 10] rfl (gL_law_B377 hC hX hW0 N hag65 (nb := nb) (zB_w hB74 (by omega)) v2 v3 v5 v6 v8 v9 1 M86)
        · exact zg_sub [2, 3, 4, 5, 6, 7, 9, 10] rfl (gL_law_B376 hC hX hW0 N hag65 (nb := nb) (zB_w hB74 (by omega)) v2 v3 v5 v6 v8 v9 M86)
      · exact zg_sub [2, 3, 4, 5, 6, 7, 9, 10] rfl (gL_law_B376 hC hX hW0 N hag65 (nb := nb) (zB_w hB74 (by omega)) v2 v3 v5 v6 v8 v9 M83)
    · exact zg_sub [2, 3, 4, 5, 6, 7, 9, 10] rfl (gL_law_B376 hC hX hW0 N hag65 (nb := nb) (zB_w hB74 (by omega)) v2 v3 v5 v6 v8 v9 M73)
set_option maxRecDepth 20000 in
set_option maxHeartbeats 4000000 in
theorem gL_law_B255 {l : Launch} {Z : zZ} {ad : Nat → Nat} {X : zX} {b Ls : Nat} {xs : Nat → Int32} (hC : zC l Z zfull ad X RL cL_law 14 ret 11) (hX : zScr X b Ls xs) (hW0 : zLaw X b) (N : Nat) {nb : Nat} {cs : Nat × Nat} {again65 : Int32 → Int32 → Int32 → Int32 → Int32 → zMem → zRES} (hag65 : ∀ (cs : Nat × Nat), zB (2 * nb) cs → ∀ (v2 : Int32) (v3 : Int32) (v4 : Int32) (v5 : Int32) (v6 : Int32) (M : zMem), zG l Z zfull ad X cs 65 [(0, .ref b), (1, .ref (ad 0)), (2, .int v2), (3, .int v3), (4, .int v4), (5, .int v5), (6, .int v6)] [] M (again65 v2 v3 v4 v5 v6 M)) (hB : zB (2 * nb + 0) cs) (v2 : Int32) (v3 : Int32) (v5 : Int32) (v6 : Int32) (v8 : Int32) (v9 : Int32) (s0 : Int32) (M : zMem) : zG l Z zfull ad X cs 255 [(0, .ref b), (1, .ref (ad 0)), (2, .int v2), (3, .int v3), (5, .int v5), (6, .int v6), (8, .int v8), (9, .int v9)] [.int s0] M (fL_law_B255 Ls xs N again65 v2 v3 v5 v6 v8 v9 s0 M) := by
  unfold fL_law_B255
  refine zg_istore hC (L' := [(4, _), (0, _), (1, _), (2, _), (3, _), (5, _), (6, _), (8, _), (9, _)]) dL_law_255 (by decide) rfl ?_
  refine zg_goto hC (tgt := 1019) dL_law_257 (by decide) ?_
  exact zg_sub [1, 2, 3, 4, 0, 5, 6, 7, 8] rfl (gL_law_B1019 hC hX hW0 N hag65 (nb := nb) (zB_w hB (by omega)) v2 v3 s0 v5 v6 v8 v9 M)
set_option maxRecDepth 20000 in
set_option maxHeartbeats 4000000 in
theorem gL_law_B254 {l : Launch} {Z : zZ} {ad : Nat → Nat} {X : zX} {b Ls : Nat} {xs : Nat → Int32} (hC : zC l Z zfull ad X RL cL_law 14 ret 11) (hX : zScr X b Ls xs) (hW0 : zLaw X b) (N : Nat) {nb : Nat} {cs : Nat × Nat} {again65 : Int32 → Int32 → Int32 → Int32 → Int32 → zMem → zRES} (hag65 : ∀ (cs : Nat × Nat), zB (2 * nb) cs → ∀ (v2 : Int32) (v3 : Int32) (v4 : Int32) (v5 : Int32) (v6 : Int32) (M : zMem), zG l Z zfull ad X cs 65 [(0, .ref b), (1, .ref (ad 0)), (2, .int v2), (3, .int v3), (4, .int v4), (5, .int v5), (6, .int v6)] [] M (again65 v2 v3 v4 v5 v6 M)) (hB : zB (2 * nb + 0) cs) (v2 : Int32) (v3 : Int32) (v5 : Int32) (v6 : Int32) (v8 : Int32) (v9 : Int32) (M : zMem) : zG l Z zfull ad X cs 254 [(0, .ref b), (1, .ref (ad 0)), (2, .int v2), (3, .int v3), (5, .int v5), (6, .int v6), (8, .int v8), (9, .int v9)] [] M (fL_law_B254 Ls xs N again65 v2 v3 v5 v6 v8 v9 M) := by
  unfold fL_law_B254
  refine zg_iconst hC (v := 0) dL_law_254 (by decide) ?_
  exact zg_sub [0, 1, 2, 3, 4, 5, 6, 7] rfl (gL_law_B255 hC hX hW0 N hag65 (nb := nb) (zB_w hB (by omega)) v2 v3 v5 v6 v8 v9 0 M)
set_option maxRecDepth 20000 in
set_option maxHeartbeats 4000000 in
theorem gL_law_B250 {l : Launch} {Z : zZ} {ad : Nat → Nat} {X : zX} {b Ls : Nat} {xs : Nat → Int32} (hC : zC l Z zfull ad X RL cL_law 14 ret 11) (hX : zScr X b Ls xs) (hW0 : zLaw X b) (N : Nat) {nb : Nat} {cs : Nat × Nat} {again65 : Int32 → Int32 → Int32 → Int32 → Int32 → zMem → zRES} (hag65 : ∀ (cs : Nat × Nat), zB (2 * nb) cs → ∀ (v2 : Int32) (v3 : Int32) (v4 : Int32) (v5 : Int32) (v6 : Int32) (M : zMem), zG l Z zfull ad X cs 65 [(0, .ref b), (1, .ref (ad 0)), (2, .int v2), (3, .int v3), (4, .int v4), (5, .int v5), (6, .int v6)] [] M (again65 v2 v3 v4 v5 v6 M)) (hB : zB (2 * nb + 0) cs) (v2 : Int32) (v3 : Int32) (v5 : Int32) (v6 : Int32) (v8 : Int32) (v9 : Int32) (M : zMem) : zG l Z zfull ad X cs 250 [(0, .ref b), (1, .ref (ad 0)), (2, .int v2), (3, .int v3), (5, .int v5), (6, .int v6), (8, .int v8), (9, .int v9)] [] M (fL_law_B250 Ls xs N again65 v2 v3 v5 v6 v8 v9 M) := by
  unfold fL_law_B250
  refine zg_iconst hC (v := 1) dL_law_250 (by decide) ?_
  refine zg_goto hC (tgt := 255) dL_law_251 (by decide) ?_
  exact zg_sub [0, 1, 2, 3, 4, 5, 6, 7] rfl (gL_law_B255 hC hX hW0 N hag65 (nb := nb) (zB_w hB (by omega)) v2 v3 v5 v6 v8 v9 1 M)
set_option maxRecDepth 20000 in
set_option maxHeartbeats 4000000 in
theorem gL_law_B195 {l : Launch} {Z : zZ} {ad : Nat → Nat} {X : zX} {b Ls : Nat} {xs : Nat → Int32} (hC : zC l Z zfull ad X RL cL_law 14 ret 11) (hX : zScr X b Ls xs) (hW0 : zLaw X b) (N : Nat) {nb : Nat} {cs : Nat × Nat} {again65 : Int32 → Int32 → Int32 → Int32 → Int32 → zMem → zRES} (hag65 : ∀ (cs : Nat × Nat), zB (2 * nb) cs → ∀ (v2 : Int32) (v3 : Int32) (v4 : Int32) (v5 : Int32) (v6 : Int32) (M : zMem), zG l Z zfull ad X cs 65 [(0, .ref b), (1, .ref (ad 0)), (2, .int v2), (3, .int v3), (4, .int v4), (5, .int v5), (6, .int v6)] [] M (again65 v2 v3 v4 v5 v6 M)) (hB : zB (2 * nb + 1) cs) (v2 : Int32) (v3 : Int32) (v5 : Int32) (v6 : Int32) (v8 : Int32) (v9 : Int32) (M : zMem) : zG l Z zfull ad X cs 195 [(0, .ref b), (1, .ref (ad 0)), (2, .int v2), (3, .int v3), (5, .int v5), (6, .int v6), (8, .int v8), (9, .int v9)] [] M (fL_law_B195 Ls xs N again65 v2 v3 v5 v6 v8 v9 M) := by
  unfold fL_law_B195
  refine zg_aload_n hC 1 dL_law_195 rfl ?_
  refine zg_iload hC 7 dL_law_196 rfl ?_
  refine zg_callVL hC hW0 hB (k := 0) (As := [.int v9]) (S := []) rfl (tX7_role (zflag hC) 3 N v9 M) lkW_39 rfl dL_law_198 zq0 zk0 rfl rfl (Nat.le_of_ble_eq_true rfl) (fun r49 M50 er49 => ?_)
  refine zg_istore hC (L' := [(11, _), (0, _), (1, _), (2, _), (3, _), (5, _), (6, _), (8, _), (9, _)]) dL_law_201 (by decide) rfl ?_
  refine zg_aload_n hC 2 dL_law_203 rfl ?_
  refine zg_iload hC 7 dL_law_204 rfl ?_
  refine zg_iload hC 8 dL_law_206 rfl ?_
  refine zg_callWL hC hW0 hB (As := [.ref (ad 0), .int v8, .int v9]) (S := []) rfl (tL_vote (zflag hC) 1 N v8 v9 M50) lkW_114 rfl dL_law_208 (Nat.le_of_ble_eq_true rfl) (fun r51 M52 er51 => ?_)
  have hB53 := zB_step hB
  refine zg_istore hC (L' := [(12, _), (11, _), (0, _), (1, _), (2, _), (3, _), (5, _), (6, _), (8, _), (9, _)]) dL_law_211 (by decide) rfl ?_
  refine zg_iload hC 0 dL_law_213 rfl ?_
  refine zg_if_eq hC (tgt := 250) dL_law_215 (by decide) (fun c54 => ?_) (fun c54 => ?_)
  · exact zg_sub [2, 3, 4, 5, 6, 7, 8, 9] rfl (gL_law_B250 hC hX hW0 N hag65 (nb := nb) (zB_w hB53 (by omega)) v2 v3 v5 v6 v8 v9 M52)
  · refine zg_aload_n hC 3 dL_law_218 rfl ?_
    refine zg_iload hC 8 dL_law_219 rfl ?_
    refine zg_callVL hC hW0 hB53 (k := 0) (As := [.int v8]) (S := []) rfl (tX7_votedFor (zflag hC) 3 N v8 M52) lkW_42 rfl dL_law_221 zq0 zk0 rfl rfl (Nat.le_of_ble_eq_true rfl) (fun r55 M56 er55 => ?_)
    refine zg_iload hC 9 dL_law_224 rfl ?_
    refine zg_icmp_ne hC (tgt := 254) dL_law_226 (by decide) (fun c57 => ?_) (fun c57 => ?_)
    · refine zg_aload_n hC 3 dL_law_229 rfl ?_
      refine zg_iload hC 8 dL_law_230 rfl ?_
      refine zg_callVL hC hW0 hB53 (k := 0) (As := [.int v8]) (S := []) rfl (tX7_term (zflag hC) 3 N v8 M56) lkW_45 rfl dL_law_232 zq0 zk0 rfl rfl (Nat.le_of_ble_eq_true rfl) (fun r58 M59 er58 => ?_)
      refine zg_aload_n hC 3 dL_law_235 rfl ?_
      refine zg_iload hC 9 dL_law_236 rfl ?_
      refine zg_callVL hC hW0 hB53 (k := 0) (As := [.int v9]) (S := [.int r58]) rfl (tX7_term (zflag hC) 3 N v9 M59) lkW_45 rfl dL_law_238 zq0 zk0 rfl rfl (Nat.le_of_ble_eq_true rfl) (fun r60 M61 er60 => ?_)
      refine zg_icmp_ne hC (tgt := 254) dL_law_241 (by decide) (fun c62 => ?_) (fun c62 => ?_)
      · refine zg_iload hC 1 dL_law_244 rfl ?_
        refine zg_iconst hC (v := 1) dL_law_246 (by decide) ?_
        refine zg_icmp_ne hC (tgt := 254) dL_law_247 (by decide) (fun c63 => ?_) (fun c63 => ?_)
        · exact zg_sub [2, 3, 4, 5, 6, 7, 8, 9] rfl (gL_law_B250 hC hX hW0 N hag65 (nb := nb) (zB_w hB53 (by omega)) v2 v3 v5 v6 v8 v9 M61)
        · exact zg_sub [2, 3, 4, 5, 6, 7, 8, 9] rfl (gL_law_B254 hC hX hW0 N hag65 (nb := nb) (zB_w hB53 (by omega)) v2 v3 v5 v6 v8 v9 M61)
      · exact zg_sub [2, 3, 4, 5, 6, 7, 8, 9] rfl (gL_law_B254 hC hX hW0 N hag65 (nb := nb) (zB_w hB53 (by omega)) v2 v3 v5 v6 v8 v9 M61)
    · exact zg_sub [2, 3, 4, 5, 6, 7, 8, 9] rfl (gL_law_B254 hC hX hW0 N hag65 (nb := nb) (zB_w hB53 (by omega)) v2 v3 v5 v6 v8 v9 M56)
set_option maxRecDepth 20000 in
set_option maxHeartbeats 4000000 in
theorem gL_law_B180 {l : Launch} {Z : zZ} {ad : Nat → Nat} {X : zX} {b Ls : Nat} {xs : Nat → Int32} (hC : zC l Z zfull ad X RL cL_law 14 ret 11) (hX : zScr X b Ls xs) (hW0 : zLaw X b) (N : Nat) {nb : Nat} {cs : Nat × Nat} {again65 : Int32 → Int32 → Int32 → Int32 → Int32 → zMem → zRES} (hag65 : ∀ (cs : Nat × Nat), zB (2 * nb) cs → ∀ (v2 : Int32) (v3 : Int32) (v4 : Int32) (v5 : Int32) (v6 : Int32) (M : zMem), zG l Z zfull ad X cs 65 [(0, .ref b), (1, .ref (ad 0)), (2, .int v2), (3, .int v3), (4, .int v4), (5, .int v5), (6, .int v6)] [] M (again65 v2 v3 v4 v5 v6 M)) (hB : zB (2 * nb + 0) cs) (v2 : Int32) (v3 : Int32) (v5 : Int32) (v6 : Int32) (v8 : Int32) (v9 : Int32) (s0 : Int32) (M : zMem) : zG l Z zfull ad X cs 180 [(0, .ref b), (1, .ref (ad 0)), (2, .int v2), (3, .int v3), (5, .int v5), (6, .int v6), (8, .int v8), (9, .int v9)] [.int s0] M (fL_law_B180 Ls xs N again65 v2 v3 v5 v6 v8 v9 s0 M) := by
  unfold fL_law_B180
  refine zg_istore hC (L' := [(4, _), (0, _), (1, _), (2, _), (3, _), (5, _), (6, _), (8, _), (9, _)]) dL_law_180 (by decide) rfl ?_
  refine zg_iinc hC 4 (v := v3 + 1) (L' := [(3, _), (4, _), (0, _), (1, _), (2, _), (5, _), (6, _), (8, _), (9, _)]) dL_law_182 rfl (by rfl) (by decide) rfl ?_
  refine zg_goto hC (tgt := 1019) dL_law_185 (by decide) ?_
  exact zg_sub [2, 3, 4, 0, 1, 5, 6, 7, 8] rfl (gL_law_B1019 hC hX hW0 N hag65 (nb := nb) (zB_w hB (by omega)) v2 (v3 + 1) s0 v5 v6 v8 v9 M)
set_option maxRecDepth 20000 in
set_option maxHeartbeats 4000000 in
theorem gL_law_B179 {l : Launch} {Z : zZ} {ad : Nat → Nat} {X : zX} {b Ls : Nat} {xs : Nat → Int32} (hC : zC l Z zfull ad X RL cL_law 14 ret 11) (hX : zScr X b Ls xs) (hW0 : zLaw X b) (N : Nat) {nb : Nat} {cs : Nat × Nat} {again65 : Int32 → Int32 → Int32 → Int32 → Int32 → zMem → zRES} (hag65 : ∀ (cs : Nat × Nat), zB (2 * nb) cs → ∀ (v2 : Int32) (v3 : Int32) (v4 : Int32) (v5 : Int32) (v6 : Int32) (M : zMem), zG l Z zfull ad X cs 65 [(0, .ref b), (1, .ref (ad 0)), (2, .int v2), (3, .int v3), (4, .int v4), (5, .int v5), (6, .int v6)] [] M (again65 v2 v3 v4 v5 v6 M)) (hB : zB (2 * nb + 0) cs) (v2 : Int32) (v3 : Int32) (v5 : Int32) (v6 : Int32) (v8 : Int32) (v9 : Int32) (M : zMem) : zG l Z zfull ad X cs 179 [(0, .ref b), (1, .ref (ad 0)), (2, .int v2), (3, .int v3), (5, .int v5), (6, .int v6), (8, .int v8), (9, .int v9)] [] M (fL_law_B179 Ls xs N again65 v2 v3 v5 v6 v8 v9 M) := by
  unfold fL_law_B179
  refine zg_iconst hC (v := 0) dL_law_179 (by decide) ?_
  exact zg_sub [0, 1, 2, 3, 4, 5, 6, 7] rfl (gL_law_B180 hC hX hW0 N hag65 (nb := nb) (zB_w hB (by omega)) v2 v3 v5 v6 v8 v9 0 M)
set_option maxRecDepth 20000 in
set_option maxHeartbeats 4000000 in
theorem gL_law_B133 {l : Launch} {Z : zZ} {ad : Nat → Nat} {X : zX} {b Ls : Nat} {xs : Nat → Int32} (hC : zC l Z zfull ad X RL cL_law 14 ret 11) (hX : zScr X b Ls xs) (hW0 : zLaw X b) (N : Nat) {nb : Nat} {cs : Nat × Nat} {again65 : Int32 → Int32 → Int32 → Int32 → Int32 → zMem → zRES} (hag65 : ∀ (cs : Nat × Nat), zB (2 * nb) cs → ∀ (v2 : Int32) (v3 : Int32) (v4 : Int32) (v5 : Int32) (v6 : Int32) (M : zMem), zG l Z zfull ad X cs 65 [(0, .ref b), (1, .ref (ad 0)), (2, .int v2), (3, .int v3), (4, .int v4), (5, .int v5), (6, .int v6)] [] M (again65 v2 v3 v4 v5 v6 M)) (hB : zB (2 * nb + 0) cs) (v2 : Int32) (v3 : Int32) (v5 : Int32) (v6 : Int32) (v8 : Int32) (v9 : Int32) (M : zMem) : zG l Z zfull ad X cs 133 [(0, .ref b), (1, .ref (ad 0)), (2, .int v2), (3, .int v3), (5, .int v5), (6, .int v6), (8, .int v8), (9, .int v9)] [] M (fL_law_B133 Ls xs N again65 v2 v3 v5 v6 v8 v9 M) := by
  unfold fL_law_B133
  refine zg_aload_n hC 1 dL_law_133 rfl ?_
  refine zg_iload hC 6 dL_law_134 rfl ?_
  refine zg_callVL hC hW0 hB (k := 0) (As := [.int v8]) (S := []) rfl (tX7_term (zflag hC) 3 N v8 M) lkW_45 rfl dL_law_136 zq0 zk0 rfl rfl (Nat.le_of_ble_eq_true rfl) (fun r38 M39 er38 => ?_)
  refine zg_istore hC (L' := [(11, _), (0, _), (1, _), (2, _), (3, _), (5, _), (6, _), (8, _), (9, _)]) dL_law_139 (by decide) rfl ?_
  refine zg_aload_n hC 2 dL_law_141 rfl ?_
  refine zg_iload hC 7 dL_law_142 rfl ?_
  refine zg_callVL hC hW0 hB (k := 0) (As := [.int v8]) (S := []) rfl (tX7_stand (zflag hC) 3 N v8 M39) lkW_111 rfl dL_law_144 zq0 zk0 rfl rfl (Nat.le_of_ble_eq_true rfl) (fun r40 M41 er40 => ?_)
  refine zg_iload hC 0 dL_law_147 rfl ?_
  refine zg_iconst hC (v := 1) dL_law_149 (by decide) ?_
  refine zg_iadd hC dL_law_150 ?_
  refine zg_icmp_ne hC (tgt := 179) dL_law_151 (by decide) (fun c42 => ?_) (fun c42 => ?_)
  · refine zg_aload_n hC 2 dL_law_154 rfl ?_
    refine zg_iload hC 7 dL_law_155 rfl ?_
    refine zg_callVL hC hW0 hB (k := 0) (As := [.int v8]) (S := []) rfl (tX7_role (zflag hC) 3 N v8 M41) lkW_39 rfl dL_law_157 zq0 zk0 rfl rfl (Nat.le_of_ble_eq_true rfl) (fun r43 M44 er43 => ?_)
    refine zg_iconst hC (v := 1) dL_law_160 (by decide) ?_
    refine zg_icmp_ne hC (tgt := 179) dL_law_161 (by decide) (fun c45 => ?_) (fun c45 => ?_)
    · refine zg_aload_n hC 2 dL_law_164 rfl ?_
      refine zg_iload hC 7 dL_law_165 rfl ?_
      refine zg_callVL hC hW0 hB (k := 0) (As := [.int v8]) (S := []) rfl (tX7_votedFor (zflag hC) 3 N v8 M44) lkW_42 rfl dL_law_167 zq0 zk0 rfl rfl (Nat.le_of_ble_eq_true rfl) (fun r46 M47 er46 => ?_)
      refine zg_iload hC 7 dL_law_170 rfl ?_
      refine zg_icmp_ne hC (tgt := 179) dL_law_172 (by decide) (fun c48 => ?_) (fun c48 => ?_)
      · refine zg_iconst hC (v := 1) dL_law_175 (by decide) ?_
        refine zg_goto hC (tgt := 180) dL_law_176 (by decide) ?_
        exact zg_sub [1, 2, 3, 4, 5, 6, 7, 8] rfl (gL_law_B180 hC hX hW0 N hag65 (nb := nb) (zB_w hB (by omega)) v2 v3 v5 v6 v8 v9 1 M47)
      · exact zg_sub [1, 2, 3, 4, 5, 6, 7, 8] rfl (gL_law_B179 hC hX hW0 N hag65 (nb := nb) (zB_w hB (by omega)) v2 v3 v5 v6 v8 v9 M47)
    · exact zg_sub [1, 2, 3, 4, 5, 6, 7, 8] rfl (gL_law_B179 hC hX hW0 N hag65 (nb := nb) (zB_w hB (by omega)) v2 v3 v5 v6 v8 v9 M44)
  · exact zg_sub [1, 2, 3, 4, 5, 6, 7, 8] rfl (gL_law_B179 hC hX hW0 N hag65 (nb := nb) (zB_w hB (by omega)) v2 v3 v5 v6 v8 v9 M41)
set_option maxRecDepth 20000 in
set_option maxHeartbeats 4000000 in
theorem gL_law_B127 {l : Launch} {Z : zZ} {ad : Nat → Nat} {X : zX} {b Ls : Nat} {xs : Nat → Int32} (hC : zC l Z zfull ad X RL cL_law 14 ret 11) (hX : zScr X b Ls xs) (hW0 : zLaw X b) (N : Nat) {nb : Nat} {cs : Nat × Nat} {again65 : Int32 → Int32 → Int32 → Int32 → Int32 → zMem → zRES} (hag65 : ∀ (cs : Nat × Nat), zB (2 * nb) cs → ∀ (v2 : Int32) (v3 : Int32) (v4 : Int32) (v5 : Int32) (v6 : Int32) (M : zMem), zG l Z zfull ad X cs 65 [(0, .ref b), (1, .ref (ad 0)), (2, .int v2), (3, .int v3), (4, .int v4), (5, .int v5), (6, .int v6)] [] M (again65 v2 v3 v4 v5 v6 M)) (hB : zB (2 * nb + 2) cs) (v2 : Int32) (v3 : Int32) (v4 : Int32) (v5 : Int32) (v6 : Int32) (v7 : Int32) (v8 : Int32) (v9 : Int32) (v10 : Int32) (M : zMem) : zG l Z zfull ad X cs 127 [(0, .ref b), (1, .ref (ad 0)), (2, .int v2), (3, .int v3), (4, .int v4), (5, .int v5), (6, .int v6), (7, .int v7), (8, .int v8), (9, .int v9), (10, .int v10)] [] M (fL_law_B127 Ls xs N again65 v2 v3 v4 v5 v6 v7 v8 v9 v10 M) := by
  unfold fL_law_B127
  refine zg_iload hC 10 dL_law_127 rfl ?_
  refine zg_iconst hC (v := 4) dL_law_129 (by decide) ?_
  refine zg_icmp_ge hC (tgt := 188) dL_law_130 (by decide) (fun c29 => ?_) (fun c29 => ?_)
  · refine zg_iload hC 10 dL_law_188 rfl ?_
    refine zg_bipush hC (v := 12) dL_law_190 (by decide) ?_
    refine zg_icmp_ge hC (tgt := 260) dL_law_192 (by decide) (fun c30 => ?_) (fun c30 => ?_)
    · refine zg_iload hC 10 dL_law_260 rfl ?_
      refine zg_bipush hC (v := 15) dL_law_262 (by decide) ?_
      refine zg_icmp_ge hC (tgt := 382) dL_law_264 (by decide) (fun c31 => ?_) (fun c31 => ?_)
      · refine zg_iload hC 10 dL_law_382 rfl ?_
        refine zg_bipush hC (v := 20) dL_law_384 (by decide) ?_
        refine zg_icmp_ge hC (tgt := 440) dL_law_386 (by decide) (fun c32 => ?_) (fun c32 => ?_)
        · refine zg_iload hC 10 dL_law_440 rfl ?_
          refine zg_bipush hC (v := 21) dL_law_442 (by decide) ?_
          refine zg_icmp_ge hC (tgt := 502) dL_law_444 (by decide) (fun c33 => ?_) (fun c33 => ?_)
          · refine zg_iload hC 10 dL_law_502 rfl ?_
            refine zg_bipush hC (v := 23) dL_law_504 (by decide) ?_
            refine zg_icmp_ge hC (tgt := 644) dL_law_506 (by decide) (fun c34 => ?_) (fun c34 => ?_)
            · refine zg_iload hC 10 dL_law_644 rfl ?_
              refine zg_bipush hC (v := 25) dL_law_646 (by decide) ?_
              refine zg_icmp_ge hC (tgt := 739) dL_law_648 (by decide) (fun c35 => ?_) (fun c35 => ?_)
              · refine zg_iload hC 10 dL_law_739 rfl ?_
                refine zg_bipush hC (v := 26) dL_law_741 (by decide) ?_
                refine zg_icmp_ge hC (tgt := 794) dL_law_743 (by decide) (fun c36 => ?_) (fun c36 => ?_)
                · refine zg_iload hC 10 dL_law_794 rfl ?_
                  refine zg_bipush hC (v := 27) dL_law_796 (by decide) ?_
                  refine zg_icmp_ge hC (tgt := 912) dL_law_798 (by decide) (fun c37 => ?_) (fun c37 => ?_)
                  · exact zg_sub [0, 1, 2, 3, 4, 5, 6, 7, 8, 9] rfl (gL_law_B912 hC hX hW0 N hag65 (nb := nb) (zB_w hB (by omega)) v2 v3 v4 v5 v6 v7 v8 v9 M)
                  · exact zg_sub [0, 1, 2, 3, 4, 5, 6, 7, 8, 9] rfl (gL_law_B801 hC hX hW0 N hag65 (nb := nb) (zB_w hB (by omega)) v2 v3 v4 v5 v6 v7 v8 v9 M)
                · exact zg_sub [0, 1, 2, 3, 5, 6, 7, 8, 9] rfl (gL_law_B746 hC hX hW0 N hag65 (nb := nb) (zB_w hB (by omega)) v2 v3 v5 v6 v7 v8 v9 M)
              · exact zg_sub [0, 1, 2, 3, 5, 6, 7, 8, 9] rfl (gL_law_B651 hC hX hW0 N hag65 (nb := nb) (zB_w hB (by omega)) v2 v3 v5 v6 v7 v8 v9 M)
            · exact zg_sub [0, 1, 2, 3, 4, 5, 6, 7, 8, 9] rfl (gL_law_B509 hC hX hW0 N hag65 (nb := nb) (zB_w hB (by omega)) v2 v3 v4 v5 v6 v7 v8 v9 M)
          · exact zg_sub [0, 1, 2, 3, 5, 6, 7, 8, 9] rfl (gL_law_B447 hC hX hW0 N hag65 (nb := nb) (zB_w hB (by omega)) v2 v3 v5 v6 v7 v8 v9 M)
        · exact zg_sub [0, 1, 2, 3, 5, 6, 8, 9] rfl (gL_law_B389 hC hX hW0 N hag65 (nb := nb) (zB_w hB (by omega)) v2 v3 v5 v6 v8 v9 M)
      · exact zg_sub [0, 1, 2, 3, 5, 6, 7, 8, 9] rfl (gL_law_B267 hC hX hW0 N hag65 (nb := nb) (zB_w hB (by omega)) v2 v3 v5 v6 v7 v8 v9 M)
    · exact zg_sub [0, 1, 2, 3, 5, 6, 8, 9] rfl (gL_law_B195 hC hX hW0 N hag65 (nb := nb) (zB_w hB (by omega)) v2 v3 v5 v6 v8 v9 M)
  · exact zg_sub [0, 1, 2, 3, 5, 6, 8, 9] rfl (gL_law_B133 hC hX hW0 N hag65 (nb := nb) (zB_w hB (by omega)) v2 v3 v5 v6 v8 v9 M)
set_option maxRecDepth 20000 in
set_option maxHeartbeats 4000000 in
theorem gL_law_B65 {l : Launch} {Z : zZ} {ad : Nat → Nat} {X : zX} {b Ls : Nat} {xs : Nat → Int32} (hC : zC l Z zfull ad X RL cL_law 14 ret 11) (hX : zScr X b Ls xs) (hW0 : zLaw X b) (N : Nat) : ∀ (n : Nat) (cs : Nat × Nat), zB (2 * n) cs → ∀ (v2 : Int32) (v3 : Int32) (v4 : Int32) (v5 : Int32) (v6 : Int32) (M : zMem), zG l Z zfull ad X cs 65 [(0, .ref b), (1, .ref (ad 0)), (2, .int v2), (3, .int v3), (4, .int v4), (5, .int v5), (6, .int v6)] [] M (fL_law_B65 Ls xs N n v2 v3 v4 v5 v6 M) := by
  intro n
  induction n with
  | zero =>
    intro cs hB v2 v3 v4 v5 v6 M
    exact zg_none
  | succ n ih =>
  intro cs hB0 v2 v3 v4 v5 v6 M
  have hB : zB (2 * n + 2) cs := zB_w hB0 (by omega)
  rw [fL_law_B65]
  refine zg_iload hC 6 dL_law_65 rfl ?_
  refine zg_iload hC 5 dL_law_67 rfl ?_
  refine zg_icmp_ge hC (tgt := 1077) dL_law_69 (by decide) (fun c18 => ?_) (fun c18 => ?_)
  · exact zg_sub [1, 3, 4] rfl (gL_law_B1077 hC hX hW0 N (zB_w hB (Nat.zero_le _)) v3 v4 M)
  · refine zg_iload hC 4 dL_law_72 rfl ?_
    refine zg_if_eq hC (tgt := 1077) dL_law_74 (by decide) (fun c19 => ?_) (fun c19 => ?_)
    · exact zg_sub [1, 3, 4] rfl (gL_law_B1077 hC hX hW0 N (zB_w hB (Nat.zero_le _)) v3 v4 M)
    · refine zg_aload_n hC 0 dL_law_77 rfl ?_
      refine zg_iconst hC (v := 1) dL_law_78 (by decide) ?_
      refine zg_iload hC 6 dL_law_79 rfl ?_
      refine zg_iadd hC dL_law_81 ?_
      refine zg_callCL hC hX hW0 hB (As := [.ref b, .int ((1 : Int32) + v6)]) (S := []) rfl (tL_cell (zflag hC) 10 N ((1 : Int32) + v6) M) lkW_104 rfl dL_law_82 (Nat.le_of_ble_eq_true rfl) (fun r20 M21 er20 => ?_)
      refine zg_istore hC (L' := [(7, _), (0, _), (1, _), (2, _), (3, _), (4, _), (5, _), (6, _)]) dL_law_85 (by decide) rfl ?_
      refine zg_iload hC 0 dL_law_87 rfl ?_
      refine zg_iconst hC (v := 3) dL_law_89 (by decide) ?_
      refine zg_ishr hC dL_law_90 ?_
      refine zg_iconst hC (v := 5) dL_law_91 (by decide) ?_
      refine zg_callSL hC hW0 hB (As := [.int (r20 >>> (3 &&& 31)), .int 5]) (S := []) rfl (tL_low (zflag hC) 10 N (r20 >>> (3 &&& 31)) 5 M21) lkW_108 rfl dL_law_92 (Nat.le_of_ble_eq_true rfl) (fun r22 M23 er22 => ?_)
      refine zg_istore hC (L' := [(8, _), (7, _), (0, _), (1, _), (2, _), (3, _), (4, _), (5, _), (6, _)]) dL_law_95 (by decide) rfl ?_
      refine zg_iload hC 0 dL_law_97 rfl ?_
      refine zg_iconst hC (v := 1) dL_law_99 (by decide) ?_
      refine zg_iadd hC dL_law_100 ?_
      refine zg_iload hC 1 dL_law_101 rfl ?_
      refine zg_bipush hC (v := 6) dL_law_103 (by decide) ?_
      refine zg_ishr hC dL_law_105 ?_
      refine zg_iconst hC (v := 4) dL_law_106 (by decide) ?_
      refine zg_callSL hC hW0 hB (As := [.int (r20 >>> (6 &&& 31)), .int 4]) (S := [.int (r22 + 1)]) rfl (tL_low (zflag hC) 10 N (r20 >>> (6 &&& 31)) 4 M23) lkW_108 rfl dL_law_107 (Nat.le_of_ble_eq_true rfl) (fun r24 M25 er24 => ?_)
      refine zg_iadd hC dL_law_110 ?_
      refine zg_iconst hC (v := 5) dL_law_111 (by decide) ?_
      refine zg_irem hC dL_law_112 (by decide) ?_
      refine zg_nm (fun x26 ex26 => ?_)
      refine zg_istore hC (L' := [(9, _), (8, _), (7, _), (0, _), (1, _), (2, _), (3, _), (4, _), (5, _), (6, _)]) dL_law_113 (by decide) rfl ?_
      refine zg_iload hC 2 dL_law_115 rfl ?_
      refine zg_bipush hC (v := 20) dL_law_117 (by decide) ?_
      refine zg_ishr hC dL_law_119 ?_
      refine zg_bipush hC (v := 28) dL_law_120 (by decide) ?_
      refine zg_callSL hC hW0 hB (As := [.int (r20 >>> (20 &&& 31)), .int 28]) (S := []) rfl (tL_low (zflag hC) 10 N (r20 >>> (20 &&& 31)) 28 M25) lkW_108 rfl dL_law_122 (Nat.le_of_ble_eq_true rfl) (fun r27 M28 er27 => ?_)
      refine zg_istore hC (L' := [(10, _), (9, _), (8, _), (7, _), (0, _), (1, _), (2, _), (3, _), (4, _), (5, _), (6, _)]) dL_law_125 (by decide) rfl ?_
      exact zg_sub [4, 5, 6, 7, 8, 9, 10, 3, 2, 1, 0] rfl (gL_law_B127 hC hX hW0 N ih (nb := n) (zB_w hB (by omega)) v2 v3 v4 v5 v6 r20 r22 x26 r27 M28)
set_option maxRecDepth 20000 in
set_option maxHeartbeats 4000000 in
theorem gL_law_B45 {l : Launch} {Z : zZ} {ad : Nat → Nat} {X : zX} {b Ls : Nat} {xs : Nat → Int32} (hC : zC l Z zfull ad X RL cL_law 14 ret 11) (hX : zScr X b Ls xs) (hW0 : zLaw X b) (N : Nat) {cs : Nat × Nat} (hB : zB 122 cs) (v2 : Int32) (v3 : Int32) (s0 : Int32) (M : zMem) : zG l Z zfull ad X cs 45 [(0, .ref b), (1, .ref (ad 0)), (2, .int v2), (3, .int v3)] [.int s0] M (fL_law_B45 Ls xs N v2 v3 s0 M) := by
  unfold fL_law_B45
  refine zg_istore hC (L' := [(4, _), (0, _), (1, _), (2, _), (3, _)]) dL_law_45 (by decide) rfl ?_
  refine zg_bipush hC (v := 6) dL_law_47 (by decide) ?_
  refine zg_aload_n hC 1 dL_law_49 rfl ?_
  refine zg_iconst hC (v := 0) dL_law_50 (by decide) ?_
  refine zg_callCL hC hX hW0 hB (As := [.ref b, .int 0]) (S := [.int 6]) rfl (tL_cell (zflag hC) 10 N 0 M) lkW_104 rfl dL_law_51 (Nat.le_of_ble_eq_true rfl) (fun r13 M14 er13 => ?_)
  refine zg_bipush hC (v := 55) dL_law_54 (by decide) ?_
  refine zg_callSL hC hW0 hB (As := [.int r13, .int 55]) (S := [.int 6]) rfl (tL_low (zflag hC) 10 N r13 55 M14) lkW_108 rfl dL_law_56 (Nat.le_of_ble_eq_true rfl) (fun r15 M16 er15 => ?_)
  refine zg_iadd hC dL_law_59 ?_
  refine zg_nm (fun x17 ex17 => ?_)
  refine zg_istore hC (L' := [(5, _), (4, _), (0, _), (1, _), (2, _), (3, _)]) dL_law_60 (by decide) rfl ?_
  refine zg_iconst hC (v := 0) dL_law_62 (by decide) ?_
  refine zg_istore hC (L' := [(6, _), (5, _), (4, _), (0, _), (1, _), (2, _), (3, _)]) dL_law_63 (by decide) rfl ?_
  exact zg_sub [3, 4, 5, 6, 2, 1, 0] rfl (gL_law_B65 hC hX hW0 N 61 _ (zB_w hB (by omega)) v2 v3 s0 x17 0 M16)
set_option maxRecDepth 20000 in
set_option maxHeartbeats 4000000 in
theorem gL_law_B44 {l : Launch} {Z : zZ} {ad : Nat → Nat} {X : zX} {b Ls : Nat} {xs : Nat → Int32} (hC : zC l Z zfull ad X RL cL_law 14 ret 11) (hX : zScr X b Ls xs) (hW0 : zLaw X b) (N : Nat) {cs : Nat × Nat} (hB : zB 122 cs) (v2 : Int32) (v3 : Int32) (M : zMem) : zG l Z zfull ad X cs 44 [(0, .ref b), (1, .ref (ad 0)), (2, .int v2), (3, .int v3)] [] M (fL_law_B44 Ls xs N v2 v3 M) := by
  unfold fL_law_B44
  refine zg_iconst hC (v := 0) dL_law_44 (by decide) ?_
  exact zg_sub [0, 1, 2, 3] rfl (gL_law_B45 hC hX hW0 N hB v2 v3 0 M)
set_option maxRecDepth 20000 in
set_option maxHeartbeats 4000000 in
theorem gL_law_B8 {l : Launch} {Z : zZ} {ad : Nat → Nat} {X : zX} {b Ls : Nat} {xs : Nat → Int32} (hC : zC l Z zfull ad X RL cL_law 14 ret 11) (hX : zScr X b Ls xs) (hW0 : zLaw X b) (N : Nat) {cs : Nat × Nat} (hB : zB 122 cs) (M : zMem) : zG l Z zfull ad X cs 8 [(0, .ref b), (1, .ref (ad 0))] [] M (fL_law_B8 Ls xs N M) := by
  unfold fL_law_B8
  refine zg_iconst hC (v := 0) dL_law_8 (by decide) ?_
  refine zg_istore_n hC (L' := [(2, _), (0, _), (1, _)]) dL_law_9 (by decide) rfl ?_
  refine zg_iconst hC (v := 0) dL_law_10 (by decide) ?_
  refine zg_istore_n hC (L' := [(3, _), (2, _), (0, _), (1, _)]) dL_law_11 (by decide) rfl ?_
  refine zg_aload_n hC 3 dL_law_12 rfl ?_
  refine zg_callSL hC hW0 hB (As := [.ref (ad 0)]) (S := []) rfl (tL_roles (zflag hC) 2 N M) lkW_92 rfl dL_law_13 (Nat.le_of_ble_eq_true rfl) (fun r1 M2 er1 => ?_)
  refine zg_if_eq hC (tgt := 44) dL_law_16 (by decide) (fun c3 => ?_) (fun c3 => ?_)
  · exact zg_sub [2, 3, 1, 0] rfl (gL_law_B44 hC hX hW0 N hB 0 0 M2)
  · refine zg_aload_n hC 3 dL_law_19 rfl ?_
    refine zg_callSL hC hW0 hB (As := [.ref (ad 0)]) (S := []) rfl (tL_batches (zflag hC) 2 N M2) lkW_96 rfl dL_law_20 (Nat.le_of_ble_eq_true rfl) (fun r4 M5 er4 => ?_)
    refine zg_if_eq hC (tgt := 44) dL_law_23 (by decide) (fun c6 => ?_) (fun c6 => ?_)
    · exact zg_sub [2, 3, 1, 0] rfl (gL_law_B44 hC hX hW0 N hB 0 0 M5)
    · refine zg_aload_n hC 3 dL_law_26 rfl ?_
      refine zg_callVL hC hW0 hB (k := 0) (As := []) (S := []) rfl (tX7_recalls (zflag hC) 10 N M5) lkW_98 rfl dL_law_27 zq0 zk0 rfl rfl (Nat.le_of_ble_eq_true rfl) (fun r7 M8 er7 => ?_)
      refine zg_if_ne hC (tgt := 44) dL_law_30 (by decide) (fun c9 => ?_) (fun c9 => ?_)
      · refine zg_aload_n hC 3 dL_law_33 rfl ?_
        refine zg_callVL hC hW0 hB (k := 0) (As := []) (S := []) rfl (tX7_stopped (zflag hC) 9 N M8) lkW_101 rfl dL_law_34 zq0 zk0 rfl rfl (Nat.le_of_ble_eq_true rfl) (fun r10 M11 er10 => ?_)
        refine zg_if_ne hC (tgt := 44) dL_law_37 (by decide) (fun c12 => ?_) (fun c12 => ?_)
        · refine zg_iconst hC (v := 1) dL_law_40 (by decide) ?_
          refine zg_goto hC (tgt := 45) dL_law_41 (by decide) ?_
          exact zg_sub [2, 3, 1, 0] rfl (gL_law_B45 hC hX hW0 N hB 0 0 1 M11)
        · exact zg_sub [2, 3, 1, 0] rfl (gL_law_B44 hC hX hW0 N hB 0 0 M11)
      · exact zg_sub [2, 3, 1, 0] rfl (gL_law_B44 hC hX hW0 N hB 0 0 M8)
