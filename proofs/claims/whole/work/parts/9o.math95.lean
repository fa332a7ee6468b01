/-! THE LAW'S WALK: its cases 29 to 56 (laid by wip/gen/lawgen.py) -/
theorem lcase_29 {Γ : LCtx} {κ ρ : Mem} (hC : lC Γ) {G : Gm} {H : Nat → Gm} {m : Nat} (hv : IV G H m κ ρ) {i : Nat} (hi : i + 6 ≤ qL Γ) (kk : ∀ κ1 ρ1, (∃ G H m, IV G H m κ1 ρ1) → LQ Γ κ1 ρ1 1729 (lo Γ i) []) : LQ Γ κ ρ 1069 (lo Γ i) [] := by
  obtain ⟨r, κ1, ρ1, hv1, e1, e2⟩ := c_always (F := 50001) hv (by decide) 
  refine l_aload hC (pc := 1069) dL_law_1069 2 rfl rfl ?_
  refine l_callX hC (pc := 1070) (κ1 := κ1) (r := r) [] [] (ctX10_always (Δ := lX Γ ρ) rfl rfl 50001 κ (r, κ1) e1) lk_134 (Nat.le_of_ble_eq_true rfl) (Nat.le_of_ble_eq_true rfl) rfl rfl (Nat.le_of_ble_eq_true rfl) dL_law_1070 ?_
  refine l_aload hC (pc := 1073) dL_law_1073 1 rfl rfl ?_
  refine l_callM hC (pc := 1074) (ρ1 := ρ1) (r := r) [] [.int r] (ctX11_always (Δ := lM Γ κ1) rfl rfl 50001 ρ (r, ρ1) e2) lk_137 (Nat.le_of_ble_eq_true rfl) (Nat.le_of_ble_eq_true rfl) rfl rfl (Nat.le_of_ble_eq_true rfl) dL_law_1074 ?_
  exact l_eq hC (pc := 1077) (tgt := 1729) dL_law_1077 rfl (kk κ1 ρ1 hv1)
theorem lcase_30 {Γ : LCtx} {κ ρ : Mem} (hC : lC Γ) {G : Gm} {H : Nat → Gm} {m : Nat} (hv : IV G H m κ ρ) {i : Nat} (hi : i + 6 ≤ qL Γ) (kk : ∀ κ1 ρ1, (∃ G H m, IV G H m κ1 ρ1) → LQ Γ κ1 ρ1 1729 (lo Γ i) []) : LQ Γ κ ρ 1082 (lo Γ i) [] := by
  obtain ⟨r, κ1, ρ1, hv1, e1, e2⟩ := c_blind (F := 50001) hv (by decide) 
  refine l_aload hC (pc := 1082) dL_law_1082 2 rfl rfl ?_
  refine l_callX hC (pc := 1083) (κ1 := κ1) (r := r) [] [] (ctX10_blind (Δ := lX Γ ρ) rfl rfl 50001 κ (r, κ1) e1) lk_138 (Nat.le_of_ble_eq_true rfl) (Nat.le_of_ble_eq_true rfl) rfl rfl (Nat.le_of_ble_eq_true rfl) dL_law_1083 ?_
  refine l_aload hC (pc := 1086) dL_law_1086 1 rfl rfl ?_
  refine l_callM hC (pc := 1087) (ρ1 := ρ1) (r := r) [] [.int r] (ctX11_blind (Δ := lM Γ κ1) rfl rfl 50001 ρ (r, ρ1) e2) lk_141 (Nat.le_of_ble_eq_true rfl) (Nat.le_of_ble_eq_true rfl) rfl rfl (Nat.le_of_ble_eq_true rfl) dL_law_1087 ?_
  exact l_eq hC (pc := 1090) (tgt := 1729) dL_law_1090 rfl (kk κ1 ρ1 hv1)
theorem lcase_31 {Γ : LCtx} {κ ρ : Mem} (hC : lC Γ) {G : Gm} {H : Nat → Gm} {m : Nat} (hv : IV G H m κ ρ) {i : Nat} (hi : i + 6 ≤ qL Γ) (kk : ∀ κ1 ρ1, (∃ G H m, IV G H m κ1 ρ1) → LQ Γ κ1 ρ1 1729 (lo Γ i) []) : LQ Γ κ ρ 1095 (lo Γ i) [] := by
  obtain ⟨r, κ1, ρ1, hv1, e1, e2⟩ := c_share (F := 50001) hv (by decide) (qx Γ (i + 1)) (qx Γ (i + 2))
  refine l_aload hC (pc := 1095) dL_law_1095 2 rfl rfl ?_
  refine l_arg hC (pc := 1096) (j := 1) (jn := 1) hi dL_law_1096 dL_law_1097 dL_law_1098 dL_law_1099 dL_law_1100 rfl (by decide) ?_
  refine l_arg hC (pc := 1101) (j := 2) (jn := 2) hi dL_law_1101 dL_law_1102 dL_law_1103 dL_law_1104 dL_law_1105 rfl (by decide) ?_
  refine l_callX hC (pc := 1106) (κ1 := κ1) (r := r) [.int (qx Γ (i + 1)), .int (qx Γ (i + 2))] [] (ctX10_share (Δ := lX Γ ρ) rfl rfl 50001 κ (qx Γ (i + 1)) (qx Γ (i + 2)) (r, κ1) e1) lk_142 (Nat.le_of_ble_eq_true rfl) (Nat.le_of_ble_eq_true rfl) rfl rfl (Nat.le_of_ble_eq_true rfl) dL_law_1106 ?_
  refine l_aload hC (pc := 1109) dL_law_1109 1 rfl rfl ?_
  refine l_arg hC (pc := 1110) (j := 1) (jn := 1) hi dL_law_1110 dL_law_1111 dL_law_1112 dL_law_1113 dL_law_1114 rfl (by decide) ?_
  refine l_arg hC (pc := 1115) (j := 2) (jn := 2) hi dL_law_1115 dL_law_1116 dL_law_1117 dL_law_1118 dL_law_1119 rfl (by decide) ?_
  refine l_callM hC (pc := 1120) (ρ1 := ρ1) (r := r) [.int (qx Γ (i + 1)), .int (qx Γ (i + 2))] [.int r] (ctX11_share (Δ := lM Γ κ1) rfl rfl 50001 ρ (qx Γ (i + 1)) (qx Γ (i + 2)) (r, ρ1) e2) lk_145 (Nat.le_of_ble_eq_true rfl) (Nat.le_of_ble_eq_true rfl) rfl rfl (Nat.le_of_ble_eq_true rfl) dL_law_1120 ?_
  exact l_eq hC (pc := 1123) (tgt := 1729) dL_law_1123 rfl (kk κ1 ρ1 hv1)
theorem lcase_32 {Γ : LCtx} {κ ρ : Mem} (hC : lC Γ) {G : Gm} {H : Nat → Gm} {m : Nat} (hv : IV G H m κ ρ) {i : Nat} (hi : i + 6 ≤ qL Γ) (kk : ∀ κ1 ρ1, (∃ G H m, IV G H m κ1 ρ1) → LQ Γ κ1 ρ1 1729 (lo Γ i) []) : LQ Γ κ ρ 1128 (lo Γ i) [] := by
  obtain ⟨r, κ1, ρ1, hv1, e1, e2⟩ := c_least (F := 50001) hv (by decide) 
  refine l_aload hC (pc := 1128) dL_law_1128 2 rfl rfl ?_
  refine l_callX hC (pc := 1129) (κ1 := κ1) (r := r) [] [] (ctX10_least (Δ := lX Γ ρ) rfl rfl 50001 κ (r, κ1) e1) lk_146 (Nat.le_of_ble_eq_true rfl) (Nat.le_of_ble_eq_true rfl) rfl rfl (Nat.le_of_ble_eq_true rfl) dL_law_1129 ?_
  refine l_aload hC (pc := 1132) dL_law_1132 1 rfl rfl ?_
  refine l_callM hC (pc := 1133) (ρ1 := ρ1) (r := r) [] [.int r] (ctX11_least (Δ := lM Γ κ1) rfl rfl 50001 ρ (r, ρ1) e2) lk_149 (Nat.le_of_ble_eq_true rfl) (Nat.le_of_ble_eq_true rfl) rfl rfl (Nat.le_of_ble_eq_true rfl) dL_law_1133 ?_
  exact l_eq hC (pc := 1136) (tgt := 1729) dL_law_1136 rfl (kk κ1 ρ1 hv1)
theorem lcase_33 {Γ : LCtx} {κ ρ : Mem} (hC : lC Γ) {G : Gm} {H : Nat → Gm} {m : Nat} (hv : IV G H m κ ρ) {i : Nat} (hi : i + 6 ≤ qL Γ) (kk : ∀ κ1 ρ1, (∃ G H m, IV G H m κ1 ρ1) → LQ Γ κ1 ρ1 1729 (lo Γ i) []) : LQ Γ κ ρ 1141 (lo Γ i) [] := by
  obtain ⟨r, κ1, ρ1, hv1, e1, e2⟩ := c_clique (F := 50001) hv (by decide) 
  refine l_aload hC (pc := 1141) dL_law_1141 2 rfl rfl ?_
  refine l_callX hC (pc := 1142) (κ1 := κ1) (r := r) [] [] (ctX10_clique (Δ := lX Γ ρ) rfl rfl 50001 κ (r, κ1) e1) lk_150 (Nat.le_of_ble_eq_true rfl) (Nat.le_of_ble_eq_true rfl) rfl rfl (Nat.le_of_ble_eq_true rfl) dL_law_1142 ?_
  refine l_aload hC (pc := 1145) dL_law_1145 1 rfl rfl ?_
  refine l_callM hC (pc := 1146) (ρ1 := ρ1) (r := r) [] [.int r] (ctX11_clique (Δ := lM Γ κ1) rfl rfl 50001 ρ (r, ρ1) e2) lk_153 (Nat.le_of_ble_eq_true rfl) (Nat.le_of_ble_eq_true rfl) rfl rfl (Nat.le_of_ble_eq_true rfl) dL_law_1146 ?_
  exact l_eq hC (pc := 1149) (tgt := 1729) dL_law_1149 rfl (kk κ1 ρ1 hv1)
theorem lcase_34 {Γ : LCtx} {κ ρ : Mem} (hC : lC Γ) {G : Gm} {H : Nat → Gm} {m : Nat} (hv : IV G H m κ ρ) {i : Nat} (hi : i + 6 ≤ qL Γ) (kk : ∀ κ1 ρ1, (∃ G H m, IV G H m κ1 ρ1) → LQ Γ κ1 ρ1 1729 (lo Γ i) []) : LQ Γ κ ρ 1154 (lo Γ i) [] := by
  obtain ⟨r, κ1, ρ1, hv1, e1, e2⟩ := c_strongest (F := 50001) hv (by decide) 
  refine l_aload hC (pc := 1154) dL_law_1154 2 rfl rfl ?_
  refine l_callX hC (pc := 1155) (κ1 := κ1) (r := r) [] [] (ctX10_strongest (Δ := lX Γ ρ) rfl rfl 50001 κ (r, κ1) e1) lk_154 (Nat.le_of_ble_eq_true rfl) (Nat.le_of_ble_eq_true rfl) rfl rfl (Nat.le_of_ble_eq_true rfl) dL_law_1155 ?_
  refine l_aload hC (pc := 1158) dL_law_1158 1 rfl rfl ?_
  refine l_callM hC (pc := 1159) (ρ1 := ρ1) (r := r) [] [.int r] (ctX11_strongest (Δ := lM Γ κ1) rfl rfl 50001 ρ (r, ρ1) e2) lk_157 (Nat.le_of_ble_eq_true rfl) (Nat.le_of_ble_eq_true rfl) rfl rfl (Nat.le_of_ble_eq_true rfl) dL_law_1159 ?_
  exact l_eq hC (pc := 1162) (tgt := 1729) dL_law_1162 rfl (kk κ1 ρ1 hv1)
theorem lcase_35 {Γ : LCtx} {κ ρ : Mem} (hC : lC Γ) {G : Gm} {H : Nat → Gm} {m : Nat} (hv : IV G H m κ ρ) {i : Nat} (hi : i + 6 ≤ qL Γ) (kk : ∀ κ1 ρ1, (∃ G H m, IV G H m κ1 ρ1) → LQ Γ κ1 ρ1 1729 (lo Γ i) []) : LQ Γ κ ρ 1167 (lo Γ i) [] := by
  obtain ⟨r, κ1, ρ1, hv1, e1, e2⟩ := c_sure (F := 50001) hv (by decide) 
  refine l_aload hC (pc := 1167) dL_law_1167 2 rfl rfl ?_
  refine l_callX hC (pc := 1168) (κ1 := κ1) (r := r) [] [] (ctX10_sure (Δ := lX Γ ρ) rfl rfl 50001 κ (r, κ1) e1) lk_158 (Nat.le_of_ble_eq_true rfl) (Nat.le_of_ble_eq_true rfl) rfl rfl (Nat.le_of_ble_eq_true rfl) dL_law_1168 ?_
  refine l_aload hC (pc := 1171) dL_law_1171 1 rfl rfl ?_
  refine l_callM hC (pc := 1172) (ρ1 := ρ1) (r := r) [] [.int r] (ctX11_sure (Δ := lM Γ κ1) rfl rfl 50001 ρ (r, ρ1) e2) lk_161 (Nat.le_of_ble_eq_true rfl) (Nat.le_of_ble_eq_true rfl) rfl rfl (Nat.le_of_ble_eq_true rfl) dL_law_1172 ?_
  exact l_eq hC (pc := 1175) (tgt := 1729) dL_law_1175 rfl (kk κ1 ρ1 hv1)
theorem lcase_36 {Γ : LCtx} {κ ρ : Mem} (hC : lC Γ) {G : Gm} {H : Nat → Gm} {m : Nat} (hv : IV G H m κ ρ) {i : Nat} (hi : i + 6 ≤ qL Γ) (kk : ∀ κ1 ρ1, (∃ G H m, IV G H m κ1 ρ1) → LQ Γ κ1 ρ1 1729 (lo Γ i) []) : LQ Γ κ ρ 1180 (lo Γ i) [] := by
  obtain ⟨r, κ1, ρ1, hv1, e1, e2⟩ := c_best (F := 50001) hv (by decide) (qx Γ (i + 1))
  refine l_aload hC (pc := 1180) dL_law_1180 2 rfl rfl ?_
  refine l_arg hC (pc := 1181) (j := 1) (jn := 1) hi dL_law_1181 dL_law_1182 dL_law_1183 dL_law_1184 dL_law_1185 rfl (by decide) ?_
  refine l_callX hC (pc := 1186) (κ1 := κ1) (r := r) [.int (qx Γ (i + 1))] [] (ctX10_best (Δ := lX Γ ρ) rfl rfl 50001 κ (qx Γ (i + 1)) (r, κ1) e1) lk_162 (Nat.le_of_ble_eq_true rfl) (Nat.le_of_ble_eq_true rfl) rfl rfl (Nat.le_of_ble_eq_true rfl) dL_law_1186 ?_
  refine l_aload hC (pc := 1189) dL_law_1189 1 rfl rfl ?_
  refine l_arg hC (pc := 1190) (j := 1) (jn := 1) hi dL_law_1190 dL_law_1191 dL_law_1192 dL_law_1193 dL_law_1194 rfl (by decide) ?_
  refine l_callM hC (pc := 1195) (ρ1 := ρ1) (r := r) [.int (qx Γ (i + 1))] [.int r] (ctX11_best (Δ := lM Γ κ1) rfl rfl 50001 ρ (qx Γ (i + 1)) (r, ρ1) e2) lk_165 (Nat.le_of_ble_eq_true rfl) (Nat.le_of_ble_eq_true rfl) rfl rfl (Nat.le_of_ble_eq_true rfl) dL_law_1195 ?_
  exact l_eq hC (pc := 1198) (tgt := 1729) dL_law_1198 rfl (kk κ1 ρ1 hv1)
theorem lcase_37 {Γ : LCtx} {κ ρ : Mem} (hC : lC Γ) {G : Gm} {H : Nat → Gm} {m : Nat} (hv : IV G H m κ ρ) {i : Nat} (hi : i + 6 ≤ qL Γ) (kk : ∀ κ1 ρ1, (∃ G H m, IV G H m κ1 ρ1) → LQ Γ κ1 ρ1 1729 (lo Γ i) []) : LQ Γ κ ρ 1203 (lo Γ i) [] := by
  obtain ⟨r, κ1, ρ1, hv1, e1, e2⟩ := c_bestAt (F := 50001) hv (by decide) (qx Γ (i + 1)) (qx Γ (i + 2))
  refine l_aload hC (pc := 1203) dL_law_1203 2 rfl rfl ?_
  refine l_arg hC (pc := 1204) (j := 1) (jn := 1) hi dL_law_1204 dL_law_1205 dL_law_1206 dL_law_1207 dL_law_1208 rfl (by decide) ?_
  refine l_arg hC (pc := 1209) (j := 2) (jn := 2) hi dL_law_1209 dL_law_1210 dL_law_1211 dL_law_1212 dL_law_1213 rfl (by decide) ?_
  refine l_callX hC (pc := 1214) (κ1 := κ1) (r := r) [.int (qx Γ (i + 1)), .int (qx Γ (i + 2))] [] (ctX10_bestAt (Δ := lX Γ ρ) rfl rfl 50001 κ (qx Γ (i + 1)) (qx Γ (i + 2)) (r, κ1) e1) lk_166 (Nat.le_of_ble_eq_true rfl) (Nat.le_of_ble_eq_true rfl) rfl rfl (Nat.le_of_ble_eq_true rfl) dL_law_1214 ?_
  refine l_aload hC (pc := 1217) dL_law_1217 1 rfl rfl ?_
  refine l_arg hC (pc := 1218) (j := 1) (jn := 1) hi dL_law_1218 dL_law_1219 dL_law_1220 dL_law_1221 dL_law_1222 rfl (by decide) ?_
  refine l_arg hC (pc := 1223) (j := 2) (jn := 2) hi dL_law_1223 dL_law_1224 dL_law_1225 dL_law_1226 dL_law_1227 rfl (by decide) ?_
  refine l_callM hC (pc := 1228) (ρ1 := ρ1) (r := r) [.int (qx Γ (i + 1)), .int (qx Γ (i + 2))] [.int r] (ctX11_bestAt (Δ := lM Γ κ1) rfl rfl 50001 ρ (qx Γ (i + 1)) (qx Γ (i + 2)) (r, ρ1) e2) lk_169 (Nat.le_of_ble_eq_true rfl) (Nat.le_of_ble_eq_true rfl) rfl rfl (Nat.le_of_ble_eq_true rfl) dL_law_1228 ?_
  exact l_eq hC (pc := 1231) (tgt := 1729) dL_law_1231 rfl (kk κ1 ρ1 hv1)
theorem lcase_38 {Γ : LCtx} {κ ρ : Mem} (hC : lC Γ) {G : Gm} {H : Nat → Gm} {m : Nat} (hv : IV G H m κ ρ) {i : Nat} (hi : i + 6 ≤ qL Γ) (kk : ∀ κ1 ρ1, (∃ G H m, IV G H m κ1 ρ1) → LQ Γ κ1 ρ1 1729 (lo Γ i) []) : LQ Γ κ ρ 1236 (lo Γ i) [] := by
  obtain ⟨r, κ1, ρ1, hv1, e1, e2⟩ := c_bettered (F := 50001) hv (by decide) 
  refine l_aload hC (pc := 1236) dL_law_1236 2 rfl rfl ?_
  refine l_callX hC (pc := 1237) (κ1 := κ1) (r := r) [] [] (ctX10_bettered (Δ := lX Γ ρ) rfl rfl 50001 κ (r, κ1) e1) lk_170 (Nat.le_of_ble_eq_true rfl) (Nat.le_of_ble_eq_true rfl) rfl rfl (Nat.le_of_ble_eq_true rfl) dL_law_1237 ?_
  refine l_aload hC (pc := 1240) dL_law_1240 1 rfl rfl ?_
  refine l_callM hC (pc := 1241) (ρ1 := ρ1) (r := r) [] [.int r] (ctX11_bettered (Δ := lM Γ κ1) rfl rfl 50001 ρ (r, ρ1) e2) lk_173 (Nat.le_of_ble_eq_true rfl) (Nat.le_of_ble_eq_true rfl) rfl rfl (Nat.le_of_ble_eq_true rfl) dL_law_1241 ?_
  exact l_eq hC (pc := 1244) (tgt := 1729) dL_law_1244 rfl (kk κ1 ρ1 hv1)
theorem lcase_39 {Γ : LCtx} {κ ρ : Mem} (hC : lC Γ) {G : Gm} {H : Nat → Gm} {m : Nat} (hv : IV G H m κ ρ) {i : Nat} (hi : i + 6 ≤ qL Γ) (kk : ∀ κ1 ρ1, (∃ G H m, IV G H m κ1 ρ1) → LQ Γ κ1 ρ1 1729 (lo Γ i) []) : LQ Γ κ ρ 1249 (lo Γ i) [] := by
  obtain ⟨r, κ1, ρ1, hv1, e1, e2⟩ := c_ways (F := 50001) hv (by decide) (qx Γ (i + 1))
  refine l_aload hC (pc := 1249) dL_law_1249 2 rfl rfl ?_
  refine l_arg hC (pc := 1250) (j := 1) (jn := 1) hi dL_law_1250 dL_law_1251 dL_law_1252 dL_law_1253 dL_law_1254 rfl (by decide) ?_
  refine l_callX hC (pc := 1255) (κ1 := κ1) (r := r) [.int (qx Γ (i + 1))] [] (ctX10_ways (Δ := lX Γ ρ) rfl rfl 50001 κ (qx Γ (i + 1)) (r, κ1) e1) lk_174 (Nat.le_of_ble_eq_true rfl) (Nat.le_of_ble_eq_true rfl) rfl rfl (Nat.le_of_ble_eq_true rfl) dL_law_1255 ?_
  refine l_aload hC (pc := 1258) dL_law_1258 1 rfl rfl ?_
  refine l_arg hC (pc := 1259) (j := 1) (jn := 1) hi dL_law_1259 dL_law_1260 dL_law_1261 dL_law_1262 dL_law_1263 rfl (by decide) ?_
  refine l_callM hC (pc := 1264) (ρ1 := ρ1) (r := r) [.int (qx Γ (i + 1))] [.int r] (ctX11_ways (Δ := lM Γ κ1) rfl rfl 50001 ρ (qx Γ (i + 1)) (r, ρ1) e2) lk_177 (Nat.le_of_ble_eq_true rfl) (Nat.le_of_ble_eq_true rfl) rfl rfl (Nat.le_of_ble_eq_true rfl) dL_law_1264 ?_
  exact l_eq hC (pc := 1267) (tgt := 1729) dL_law_1267 rfl (kk κ1 ρ1 hv1)
theorem lcase_40 {Γ : LCtx} {κ ρ : Mem} (hC : lC Γ) {G : Gm} {H : Nat → Gm} {m : Nat} (hv : IV G H m κ ρ) {i : Nat} (hi : i + 6 ≤ qL Γ) (kk : ∀ κ1 ρ1, (∃ G H m, IV G H m κ1 ρ1) → LQ Γ κ1 ρ1 1729 (lo Γ i) []) : LQ Γ κ ρ 1272 (lo Γ i) [] := by
  obtain ⟨r, κ1, ρ1, hv1, e1, e2⟩ := c_search (F := 50001) hv (by decide) (qx Γ (i + 1)) (qx Γ (i + 2)) (qx Γ (i + 3))
  refine l_aload hC (pc := 1272) dL_law_1272 2 rfl rfl ?_
  refine l_arg hC (pc := 1273) (j := 1) (jn := 1) hi dL_law_1273 dL_law_1274 dL_law_1275 dL_law_1276 dL_law_1277 rfl (by decide) ?_
  refine l_arg hC (pc := 1278) (j := 2) (jn := 2) hi dL_law_1278 dL_law_1279 dL_law_1280 dL_law_1281 dL_law_1282 rfl (by decide) ?_
  refine l_arg hC (pc := 1283) (j := 3) (jn := 3) hi dL_law_1283 dL_law_1284 dL_law_1285 dL_law_1286 dL_law_1287 rfl (by decide) ?_
  refine l_callX hC (pc := 1288) (κ1 := κ1) (r := r) [.int (qx Γ (i + 1)), .int (qx Γ (i + 2)), .int (qx Γ (i + 3))] [] (ctX10_search (Δ := lX Γ ρ) rfl rfl 50001 κ (qx Γ (i + 1)) (qx Γ (i + 2)) (qx Γ (i + 3)) (r, κ1) e1) lk_178 (Nat.le_of_ble_eq_true rfl) (Nat.le_of_ble_eq_true rfl) rfl rfl (Nat.le_of_ble_eq_true rfl) dL_law_1288 ?_
  refine l_aload hC (pc := 1291) dL_law_1291 1 rfl rfl ?_
  refine l_arg hC (pc := 1292) (j := 1) (jn := 1) hi dL_law_1292 dL_law_1293 dL_law_1294 dL_law_1295 dL_law_1296 rfl (by decide) ?_
  refine l_arg hC (pc := 1297) (j := 2) (jn := 2) hi dL_law_1297 dL_law_1298 dL_law_1299 dL_law_1300 dL_law_1301 rfl (by decide) ?_
  refine l_arg hC (pc := 1302) (j := 3) (jn := 3) hi dL_law_1302 dL_law_1303 dL_law_1304 dL_law_1305 dL_law_1306 rfl (by decide) ?_
  refine l_callM hC (pc := 1307) (ρ1 := ρ1) (r := r) [.int (qx Γ (i + 1)), .int (qx Γ (i + 2)), .int (qx Γ (i + 3))] [.int r] (ctX11_search (Δ := lM Γ κ1) rfl rfl 50001 ρ (qx Γ (i + 1)) (qx Γ (i + 2)) (qx Γ (i + 3)) (r, ρ1) e2) lk_182 (Nat.le_of_ble_eq_true rfl) (Nat.le_of_ble_eq_true rfl) rfl rfl (Nat.le_of_ble_eq_true rfl) dL_law_1307 ?_
  exact l_eq hC (pc := 1310) (tgt := 1729) dL_law_1310 rfl (kk κ1 ρ1 hv1)
theorem lcase_41 {Γ : LCtx} {κ ρ : Mem} (hC : lC Γ) {G : Gm} {H : Nat → Gm} {m : Nat} (hv : IV G H m κ ρ) {i : Nat} (hi : i + 6 ≤ qL Γ) (kk : ∀ κ1 ρ1, (∃ G H m, IV G H m κ1 ρ1) → LQ Γ κ1 ρ1 1729 (lo Γ i) []) : LQ Γ κ ρ 1315 (lo Γ i) [] := by
  obtain ⟨r, κ1, ρ1, hv1, e1, e2⟩ := c_renumber (F := 50001) hv (by decide) (qx Γ (i + 1))
  refine l_aload hC (pc := 1315) dL_law_1315 2 rfl rfl ?_
  refine l_arg hC (pc := 1316) (j := 1) (jn := 1) hi dL_law_1316 dL_law_1317 dL_law_1318 dL_law_1319 dL_law_1320 rfl (by decide) ?_
  refine l_callX hC (pc := 1321) (κ1 := κ1) (r := r) [.int (qx Γ (i + 1))] [] (ctX10_renumber (Δ := lX Γ ρ) rfl rfl 50001 κ (qx Γ (i + 1)) (r, κ1) e1) lk_183 (Nat.le_of_ble_eq_true rfl) (Nat.le_of_ble_eq_true rfl) rfl rfl (Nat.le_of_ble_eq_true rfl) dL_law_1321 ?_
  refine l_aload hC (pc := 1324) dL_law_1324 1 rfl rfl ?_
  refine l_arg hC (pc := 1325) (j := 1) (jn := 1) hi dL_law_1325 dL_law_1326 dL_law_1327 dL_law_1328 dL_law_1329 rfl (by decide) ?_
  refine l_callM hC (pc := 1330) (ρ1 := ρ1) (r := r) [.int (qx Γ (i + 1))] [.int r] (ctX11_renumber (Δ := lM Γ κ1) rfl rfl 50001 ρ (qx Γ (i + 1)) (r, ρ1) e2) lk_186 (Nat.le_of_ble_eq_true rfl) (Nat.le_of_ble_eq_true rfl) rfl rfl (Nat.le_of_ble_eq_true rfl) dL_law_1330 ?_
  exact l_eq hC (pc := 1333) (tgt := 1729) dL_law_1333 rfl (kk κ1 ρ1 hv1)
theorem lcase_42 {Γ : LCtx} {κ ρ : Mem} (hC : lC Γ) {G : Gm} {H : Nat → Gm} {m : Nat} (hv : IV G H m κ ρ) {i : Nat} (hi : i + 6 ≤ qL Γ) (kk : ∀ κ1 ρ1, (∃ G H m, IV G H m κ1 ρ1) → LQ Γ κ1 ρ1 1729 (lo Γ i) []) : LQ Γ κ ρ 1338 (lo Γ i) [] := by
  obtain ⟨r, κ1, ρ1, hv1, e1, e2⟩ := c_alike (F := 50001) hv (by decide) (qx Γ (i + 1)) (qx Γ (i + 2))
  refine l_aload hC (pc := 1338) dL_law_1338 2 rfl rfl ?_
  refine l_arg hC (pc := 1339) (j := 1) (jn := 1) hi dL_law_1339 dL_law_1340 dL_law_1341 dL_law_1342 dL_law_1343 rfl (by decide) ?_
  refine l_arg hC (pc := 1344) (j := 2) (jn := 2) hi dL_law_1344 dL_law_1345 dL_law_1346 dL_law_1347 dL_law_1348 rfl (by decide) ?_
  refine l_callX hC (pc := 1349) (κ1 := κ1) (r := r) [.int (qx Γ (i + 1)), .int (qx Γ (i + 2))] [] (ctX10_alike (Δ := lX Γ ρ) rfl rfl 50001 κ (qx Γ (i + 1)) (qx Γ (i + 2)) (r, κ1) e1) lk_187 (Nat.le_of_ble_eq_true rfl) (Nat.le_of_ble_eq_true rfl) rfl rfl (Nat.le_of_ble_eq_true rfl) dL_law_1349 ?_
  refine l_aload hC (pc := 1352) dL_law_1352 1 rfl rfl ?_
  refine l_arg hC (pc := 1353) (j := 1) (jn := 1) hi dL_law_1353 dL_law_1354 dL_law_1355 dL_law_1356 dL_law_1357 rfl (by decide) ?_
  refine l_arg hC (pc := 1358) (j := 2) (jn := 2) hi dL_law_1358 dL_law_1359 dL_law_1360 dL_law_1361 dL_law_1362 rfl (by decide) ?_
  refine l_callM hC (pc := 1363) (ρ1 := ρ1) (r := r) [.int (qx Γ (i + 1)), .int (qx Γ (i + 2))] [.int r] (ctX11_alike (Δ := lM Γ κ1) rfl rfl 50001 ρ (qx Γ (i + 1)) (qx Γ (i + 2)) (r, ρ1) e2) lk_190 (Nat.le_of_ble_eq_true rfl) (Nat.le_of_ble_eq_true rfl) rfl rfl (Nat.le_of_ble_eq_true rfl) dL_law_1363 ?_
  exact l_eq hC (pc := 1366) (tgt := 1729) dL_law_1366 rfl (kk κ1 ρ1 hv1)
theorem lcase_43 {Γ : LCtx} {κ ρ : Mem} (hC : lC Γ) {G : Gm} {H : Nat → Gm} {m : Nat} (hv : IV G H m κ ρ) {i : Nat} (hi : i + 6 ≤ qL Γ) (kk : ∀ κ1 ρ1, (∃ G H m, IV G H m κ1 ρ1) → LQ Γ κ1 ρ1 1729 (lo Γ i) []) : LQ Γ κ ρ 1371 (lo Γ i) [] := by
  obtain ⟨r, κ1, ρ1, hv1, e1, e2⟩ := c_far (F := 50001) hv (by decide) (qx Γ (i + 1)) (qx Γ (i + 2))
  refine l_aload hC (pc := 1371) dL_law_1371 2 rfl rfl ?_
  refine l_arg hC (pc := 1372) (j := 1) (jn := 1) hi dL_law_1372 dL_law_1373 dL_law_1374 dL_law_1375 dL_law_1376 rfl (by decide) ?_
  refine l_arg hC (pc := 1377) (j := 2) (jn := 2) hi dL_law_1377 dL_law_1378 dL_law_1379 dL_law_1380 dL_law_1381 rfl (by decide) ?_
  refine l_callX hC (pc := 1382) (κ1 := κ1) (r := r) [.int (qx Γ (i + 1)), .int (qx Γ (i + 2))] [] (ctX10_far (Δ := lX Γ ρ) rfl rfl 50001 κ (qx Γ (i + 1)) (qx Γ (i + 2)) (r, κ1) e1) lk_191 (Nat.le_of_ble_eq_true rfl) (Nat.le_of_ble_eq_true rfl) rfl rfl (Nat.le_of_ble_eq_true rfl) dL_law_1382 ?_
  refine l_aload hC (pc := 1385) dL_law_1385 1 rfl rfl ?_
  refine l_arg hC (pc := 1386) (j := 1) (jn := 1) hi dL_law_1386 dL_law_1387 dL_law_1388 dL_law_1389 dL_law_1390 rfl (by decide) ?_
  refine l_arg hC (pc := 1391) (j := 2) (jn := 2) hi dL_law_1391 dL_law_1392 dL_law_1393 dL_law_1394 dL_law_1395 rfl (by decide) ?_
  refine l_callM hC (pc := 1396) (ρ1 := ρ1) (r := r) [.int (qx Γ (i + 1)), .int (qx Γ (i + 2))] [.int r] (ctX11_far (Δ := lM Γ κ1) rfl rfl 50001 ρ (qx Γ (i + 1)) (qx Γ (i + 2)) (r, ρ1) e2) lk_194 (Nat.le_of_ble_eq_true rfl) (Nat.le_of_ble_eq_true rfl) rfl rfl (Nat.le_of_ble_eq_true rfl) dL_law_1396 ?_
  exact l_eq hC (pc := 1399) (tgt := 1729) dL_law_1399 rfl (kk κ1 ρ1 hv1)
theorem lcase_44 {Γ : LCtx} {κ ρ : Mem} (hC : lC Γ) {G : Gm} {H : Nat → Gm} {m : Nat} (hv : IV G H m κ ρ) {i : Nat} (hi : i + 6 ≤ qL Γ) (kk : ∀ κ1 ρ1, (∃ G H m, IV G H m κ1 ρ1) → LQ Γ κ1 ρ1 1729 (lo Γ i) []) : LQ Γ κ ρ 1404 (lo Γ i) [] := by
  obtain ⟨r, κ1, ρ1, hv1, e1, e2⟩ := c_shape (F := 50001) hv (by decide) 
  refine l_aload hC (pc := 1404) dL_law_1404 2 rfl rfl ?_
  refine l_callX hC (pc := 1405) (κ1 := κ1) (r := r) [] [] (ctX10_shape (Δ := lX Γ ρ) rfl rfl 50001 κ (r, κ1) e1) lk_195 (Nat.le_of_ble_eq_true rfl) (Nat.le_of_ble_eq_true rfl) rfl rfl (Nat.le_of_ble_eq_true rfl) dL_law_1405 ?_
  refine l_aload hC (pc := 1408) dL_law_1408 1 rfl rfl ?_
  refine l_callM hC (pc := 1409) (ρ1 := ρ1) (r := r) [] [.int r] (ctX11_shape (Δ := lM Γ κ1) rfl rfl 50001 ρ (r, ρ1) e2) lk_198 (Nat.le_of_ble_eq_true rfl) (Nat.le_of_ble_eq_true rfl) rfl rfl (Nat.le_of_ble_eq_true rfl) dL_law_1409 ?_
  exact l_eq hC (pc := 1412) (tgt := 1729) dL_law_1412 rfl (kk κ1 ρ1 hv1)
theorem lcase_45 {Γ : LCtx} {κ ρ : Mem} (hC : lC Γ) {G : Gm} {H : Nat → Gm} {m : Nat} (hv : IV G H m κ ρ) {i : Nat} (hi : i + 6 ≤ qL Γ) (kk : ∀ κ1 ρ1, (∃ G H m, IV G H m κ1 ρ1) → LQ Γ κ1 ρ1 1729 (lo Γ i) []) : LQ Γ κ ρ 1417 (lo Γ i) [] := by
  obtain ⟨r, κ1, ρ1, hv1, e1, e2⟩ := c_hub (F := 50001) hv (by decide) 
  refine l_aload hC (pc := 1417) dL_law_1417 2 rfl rfl ?_
  refine l_callX hC (pc := 1418) (κ1 := κ1) (r := r) [] [] (ctX10_hub (Δ := lX Γ ρ) rfl rfl 50001 κ (r, κ1) e1) lk_199 (Nat.le_of_ble_eq_true rfl) (Nat.le_of_ble_eq_true rfl) rfl rfl (Nat.le_of_ble_eq_true rfl) dL_law_1418 ?_
  refine l_aload hC (pc := 1421) dL_law_1421 1 rfl rfl ?_
  refine l_callM hC (pc := 1422) (ρ1 := ρ1) (r := r) [] [.int r] (ctX11_hub (Δ := lM Γ κ1) rfl rfl 50001 ρ (r, ρ1) e2) lk_202 (Nat.le_of_ble_eq_true rfl) (Nat.le_of_ble_eq_true rfl) rfl rfl (Nat.le_of_ble_eq_true rfl) dL_law_1422 ?_
  exact l_eq hC (pc := 1425) (tgt := 1729) dL_law_1425 rfl (kk κ1 ρ1 hv1)
theorem lcase_46 {Γ : LCtx} {κ ρ : Mem} (hC : lC Γ) {G : Gm} {H : Nat → Gm} {m : Nat} (hv : IV G H m κ ρ) {i : Nat} (hi : i + 6 ≤ qL Γ) (kk : ∀ κ1 ρ1, (∃ G H m, IV G H m κ1 ρ1) → LQ Γ κ1 ρ1 1729 (lo Γ i) []) : LQ Γ κ ρ 1430 (lo Γ i) [] := by
  obtain ⟨r, κ1, ρ1, hv1, e1, e2⟩ := c_part (F := 50001) hv (by decide) (qx Γ (i + 1))
  refine l_aload hC (pc := 1430) dL_law_1430 2 rfl rfl ?_
  refine l_arg hC (pc := 1431) (j := 1) (jn := 1) hi dL_law_1431 dL_law_1432 dL_law_1433 dL_law_1434 dL_law_1435 rfl (by decide) ?_
  refine l_callX hC (pc := 1436) (κ1 := κ1) (r := r) [.int (qx Γ (i + 1))] [] (ctX10_part (Δ := lX Γ ρ) rfl rfl 50001 κ (qx Γ (i + 1)) (r, κ1) e1) lk_203 (Nat.le_of_ble_eq_true rfl) (Nat.le_of_ble_eq_true rfl) rfl rfl (Nat.le_of_ble_eq_true rfl) dL_law_1436 ?_
  refine l_aload hC (pc := 1439) dL_law_1439 1 rfl rfl ?_
  refine l_arg hC (pc := 1440) (j := 1) (jn := 1) hi dL_law_1440 dL_law_1441 dL_law_1442 dL_law_1443 dL_law_1444 rfl (by decide) ?_
  refine l_callM hC (pc := 1445) (ρ1 := ρ1) (r := r) [.int (qx Γ (i + 1))] [.int r] (ctX11_part (Δ := lM Γ κ1) rfl rfl 50001 ρ (qx Γ (i + 1)) (r, ρ1) e2) lk_206 (Nat.le_of_ble_eq_true rfl) (Nat.le_of_ble_eq_true rfl) rfl rfl (Nat.le_of_ble_eq_true rfl) dL_law_1445 ?_
  exact l_eq hC (pc := 1448) (tgt := 1729) dL_law_1448 rfl (kk κ1 ρ1 hv1)
theorem lcase_47 {Γ : LCtx} {κ ρ : Mem} (hC : lC Γ) {G : Gm} {H : Nat → Gm} {m : Nat} (hv : IV G H m κ ρ) {i : Nat} (hi : i + 6 ≤ qL Γ) (kk : ∀ κ1 ρ1, (∃ G H m, IV G H m κ1 ρ1) → LQ Γ κ1 ρ1 1729 (lo Γ i) []) : LQ Γ κ ρ 1453 (lo Γ i) [] := by
  obtain ⟨r, κ1, ρ1, hv1, e1, e2⟩ := c_set (F := 50001) hv (by decide) (qx Γ (i + 1)) (qx Γ (i + 2)) (qx Γ (i + 3))
  refine l_aload hC (pc := 1453) dL_law_1453 2 rfl rfl ?_
  refine l_arg hC (pc := 1454) (j := 1) (jn := 1) hi dL_law_1454 dL_law_1455 dL_law_1456 dL_law_1457 dL_law_1458 rfl (by decide) ?_
  refine l_arg hC (pc := 1459) (j := 2) (jn := 2) hi dL_law_1459 dL_law_1460 dL_law_1461 dL_law_1462 dL_law_1463 rfl (by decide) ?_
  refine l_arg hC (pc := 1464) (j := 3) (jn := 3) hi dL_law_1464 dL_law_1465 dL_law_1466 dL_law_1467 dL_law_1468 rfl (by decide) ?_
  refine l_callX hC (pc := 1469) (κ1 := κ1) (r := r) [.int (qx Γ (i + 1)), .int (qx Γ (i + 2)), .int (qx Γ (i + 3))] [] (ctX10_set (Δ := lX Γ ρ) rfl rfl 50001 κ (qx Γ (i + 1)) (qx Γ (i + 2)) (qx Γ (i + 3)) (r, κ1) e1) lk_207 (Nat.le_of_ble_eq_true rfl) (Nat.le_of_ble_eq_true rfl) rfl rfl (Nat.le_of_ble_eq_true rfl) dL_law_1469 ?_
  refine l_aload hC (pc := 1472) dL_law_1472 1 rfl rfl ?_
  refine l_arg hC (pc := 1473) (j := 1) (jn := 1) hi dL_law_1473 dL_law_1474 dL_law_1475 dL_law_1476 dL_law_1477 rfl (by decide) ?_
  refine l_arg hC (pc := 1478) (j := 2) (jn := 2) hi dL_law_1478 dL_law_1479 dL_law_1480 dL_law_1481 dL_law_1482 rfl (by decide) ?_
  refine l_arg hC (pc := 1483) (j := 3) (jn := 3) hi dL_law_1483 dL_law_1484 dL_law_1485 dL_law_1486 dL_law_1487 rfl (by decide) ?_
  refine l_callM hC (pc := 1488) (ρ1 := ρ1) (r := r) [.int (qx Γ (i + 1)), .int (qx Γ (i + 2)), .int (qx Γ (i + 3))] [.int r] (ctX11_set (Δ := lM Γ κ1) rfl rfl 50001 ρ (qx Γ (i + 1)) (qx Γ (i + 2)) (qx Γ (i + 3)) (r, ρ1) e2) lk_210 (Nat.le_of_ble_eq_true rfl) (Nat.le_of_ble_eq_true rfl) rfl rfl (Nat.le_of_ble_eq_true rfl) dL_law_1488 ?_
  exact l_eq hC (pc := 1491) (tgt := 1729) dL_law_1491 rfl (kk κ1 ρ1 hv1)
theorem lcase_48 {Γ : LCtx} {κ ρ : Mem} (hC : lC Γ) {G : Gm} {H : Nat → Gm} {m : Nat} (hv : IV G H m κ ρ) {i : Nat} (hi : i + 6 ≤ qL Γ) (kk : ∀ κ1 ρ1, (∃ G H m, IV G H m κ1 ρ1) → LQ Γ κ1 ρ1 1729 (lo Γ i) []) : LQ Γ κ ρ 1496 (lo Γ i) [] := by
  obtain ⟨r, κ1, ρ1, hv1, e1, e2⟩ := c_take (F := 50001) hv (by decide) (qx Γ (i + 1))
  refine l_aload hC (pc := 1496) dL_law_1496 2 rfl rfl ?_
  refine l_arg hC (pc := 1497) (j := 1) (jn := 1) hi dL_law_1497 dL_law_1498 dL_law_1499 dL_law_1500 dL_law_1501 rfl (by decide) ?_
  refine l_callX hC (pc := 1502) (κ1 := κ1) (r := r) [.int (qx Γ (i + 1))] [] (ctX10_take (Δ := lX Γ ρ) rfl rfl 50001 κ (qx Γ (i + 1)) (r, κ1) e1) lk_211 (Nat.le_of_ble_eq_true rfl) (Nat.le_of_ble_eq_true rfl) rfl rfl (Nat.le_of_ble_eq_true rfl) dL_law_1502 ?_
  refine l_aload hC (pc := 1505) dL_law_1505 1 rfl rfl ?_
  refine l_arg hC (pc := 1506) (j := 1) (jn := 1) hi dL_law_1506 dL_law_1507 dL_law_1508 dL_law_1509 dL_law_1510 rfl (by decide) ?_
  refine l_callM hC (pc := 1511) (ρ1 := ρ1) (r := r) [.int (qx Γ (i + 1))] [.int r] (ctX11_take (Δ := lM Γ κ1) rfl rfl 50001 ρ (qx Γ (i + 1)) (r, ρ1) e2) lk_214 (Nat.le_of_ble_eq_true rfl) (Nat.le_of_ble_eq_true rfl) rfl rfl (Nat.le_of_ble_eq_true rfl) dL_law_1511 ?_
  exact l_eq hC (pc := 1514) (tgt := 1729) dL_law_1514 rfl (kk κ1 ρ1 hv1)
theorem lcase_49 {Γ : LCtx} {κ ρ : Mem} (hC : lC Γ) {G : Gm} {H : Nat → Gm} {m : Nat} (hv : IV G H m κ ρ) {i : Nat} (hi : i + 6 ≤ qL Γ) (kk : ∀ κ1 ρ1, (∃ G H m, IV G H m κ1 ρ1) → LQ Γ κ1 ρ1 1729 (lo Γ i) []) : LQ Γ κ ρ 1519 (lo Γ i) [] := by
  obtain ⟨r, κ1, ρ1, hv1, e1, e2⟩ := c_better (F := 50001) hv (by decide) 
  refine l_aload hC (pc := 1519) dL_law_1519 2 rfl rfl ?_
  refine l_callX hC (pc := 1520) (κ1 := κ1) (r := r) [] [] (ctX10_better (Δ := lX Γ ρ) rfl rfl 50001 κ (r, κ1) e1) lk_215 (Nat.le_of_ble_eq_true rfl) (Nat.le_of_ble_eq_true rfl) rfl rfl (Nat.le_of_ble_eq_true rfl) dL_law_1520 ?_
  refine l_aload hC (pc := 1523) dL_law_1523 1 rfl rfl ?_
  refine l_callM hC (pc := 1524) (ρ1 := ρ1) (r := r) [] [.int r] (ctX11_better (Δ := lM Γ κ1) rfl rfl 50001 ρ (r, ρ1) e2) lk_218 (Nat.le_of_ble_eq_true rfl) (Nat.le_of_ble_eq_true rfl) rfl rfl (Nat.le_of_ble_eq_true rfl) dL_law_1524 ?_
  exact l_eq hC (pc := 1527) (tgt := 1729) dL_law_1527 rfl (kk κ1 ρ1 hv1)
theorem lcase_50 {Γ : LCtx} {κ ρ : Mem} (hC : lC Γ) {G : Gm} {H : Nat → Gm} {m : Nat} (hv : IV G H m κ ρ) {i : Nat} (hi : i + 6 ≤ qL Γ) (kk : ∀ κ1 ρ1, (∃ G H m, IV G H m κ1 ρ1) → LQ Γ κ1 ρ1 1729 (lo Γ i) []) : LQ Γ κ ρ 1532 (lo Γ i) [] := by
  obtain ⟨r, κ1, ρ1, hv1, e1, e2⟩ := c_build (F := 50001) hv (by decide) (qx Γ (i + 1))
  refine l_aload hC (pc := 1532) dL_law_1532 2 rfl rfl ?_
  refine l_arg hC (pc := 1533) (j := 1) (jn := 1) hi dL_law_1533 dL_law_1534 dL_law_1535 dL_law_1536 dL_law_1537 rfl (by decide) ?_
  refine l_callX hC (pc := 1538) (κ1 := κ1) (r := r) [.int (qx Γ (i + 1))] [] (ctX10_build (Δ := lX Γ ρ) rfl rfl 50001 κ (qx Γ (i + 1)) (r, κ1) e1) lk_219 (Nat.le_of_ble_eq_true rfl) (Nat.le_of_ble_eq_true rfl) rfl rfl (Nat.le_of_ble_eq_true rfl) dL_law_1538 ?_
  refine l_aload hC (pc := 1541) dL_law_1541 1 rfl rfl ?_
  refine l_arg hC (pc := 1542) (j := 1) (jn := 1) hi dL_law_1542 dL_law_1543 dL_law_1544 dL_law_1545 dL_law_1546 rfl (by decide) ?_
  refine l_callM hC (pc := 1547) (ρ1 := ρ1) (r := r) [.int (qx Γ (i + 1))] [.int r] (ctX11_build (Δ := lM Γ κ1) rfl rfl 50001 ρ (qx Γ (i + 1)) (r, ρ1) e2) lk_222 (Nat.le_of_ble_eq_true rfl) (Nat.le_of_ble_eq_true rfl) rfl rfl (Nat.le_of_ble_eq_true rfl) dL_law_1547 ?_
  exact l_eq hC (pc := 1550) (tgt := 1729) dL_law_1550 rfl (kk κ1 ρ1 hv1)
theorem lcase_51 {Γ : LCtx} {κ ρ : Mem} (hC : lC Γ) {G : Gm} {H : Nat → Gm} {m : Nat} (hv : IV G H m κ ρ) {i : Nat} (hi : i + 6 ≤ qL Γ) (kk : ∀ κ1 ρ1, (∃ G H m, IV G H m κ1 ρ1) → LQ Γ κ1 ρ1 1729 (lo Γ i) []) : LQ Γ κ ρ 1555 (lo Γ i) [] := by
  obtain ⟨r, κ1, ρ1, hv1, e1, e2⟩ := c_rename (F := 50001) hv (by decide) (qx Γ (i + 1)) (qx Γ (i + 2)) (qx Γ (i + 3))
  refine l_aload hC (pc := 1555) dL_law_1555 2 rfl rfl ?_
  refine l_arg hC (pc := 1556) (j := 1) (jn := 1) hi dL_law_1556 dL_law_1557 dL_law_1558 dL_law_1559 dL_law_1560 rfl (by decide) ?_
  refine l_arg hC (pc := 1561) (j := 2) (jn := 2) hi dL_law_1561 dL_law_1562 dL_law_1563 dL_law_1564 dL_law_1565 rfl (by decide) ?_
  refine l_arg hC (pc := 1566) (j := 3) (jn := 3) hi dL_law_1566 dL_law_1567 dL_law_1568 dL_law_1569 dL_law_1570 rfl (by decide) ?_
  refine l_callX hC (pc := 1571) (κ1 := κ1) (r := r) [.int (qx Γ (i + 1)), .int (qx Γ (i + 2)), .int (qx Γ (i + 3))] [] (ctX10_rename (Δ := lX Γ ρ) rfl rfl 50001 κ (qx Γ (i + 1)) (qx Γ (i + 2)) (qx Γ (i + 3)) (r, κ1) e1) lk_223 (Nat.le_of_ble_eq_true rfl) (Nat.le_of_ble_eq_true rfl) rfl rfl (Nat.le_of_ble_eq_true rfl) dL_law_1571 ?_
  refine l_aload hC (pc := 1574) dL_law_1574 1 rfl rfl ?_
  refine l_arg hC (pc := 1575) (j := 1) (jn := 1) hi dL_law_1575 dL_law_1576 dL_law_1577 dL_law_1578 dL_law_1579 rfl (by decide) ?_
  refine l_arg hC (pc := 1580) (j := 2) (jn := 2) hi dL_law_1580 dL_law_1581 dL_law_1582 dL_law_1583 dL_law_1584 rfl (by decide) ?_
  refine l_arg hC (pc := 1585) (j := 3) (jn := 3) hi dL_law_1585 dL_law_1586 dL_law_1587 dL_law_1588 dL_law_1589 rfl (by decide) ?_
  refine l_callM hC (pc := 1590) (ρ1 := ρ1) (r := r) [.int (qx Γ (i + 1)), .int (qx Γ (i + 2)), .int (qx Γ (i + 3))] [.int r] (ctX11_rename (Δ := lM Γ κ1) rfl rfl 50001 ρ (qx Γ (i + 1)) (qx Γ (i + 2)) (qx Γ (i + 3)) (r, ρ1) e2) lk_226 (Nat.le_of_ble_eq_true rfl) (Nat.le_of_ble_eq_true rfl) rfl rfl (Nat.le_of_ble_eq_true rfl) dL_law_1590 ?_
  exact l_eq hC (pc := 1593) (tgt := 1729) dL_law_1593 rfl (kk κ1 ρ1 hv1)
theorem lcase_52 {Γ : LCtx} {κ ρ : Mem} (hC : lC Γ) {G : Gm} {H : Nat → Gm} {m : Nat} (hv : IV G H m κ ρ) {i : Nat} (hi : i + 6 ≤ qL Γ) (kk : ∀ κ1 ρ1, (∃ G H m, IV G H m κ1 ρ1) → LQ Γ κ1 ρ1 1729 (lo Γ i) []) : LQ Γ κ ρ 1598 (lo Γ i) [] := by
  by_cases hz : qx Γ (i + 3) = 0
  · obtain ⟨r, κ1, ρ1, hv1, e1, e2⟩ := c_see (F := 50001) hv (by decide) (qx Γ (i + 1)) (qx Γ (i + 2)) (false)
    refine l_aload hC (pc := 1598) dL_law_1598 2 rfl rfl ?_
    refine l_arg hC (pc := 1599) (j := 1) (jn := 1) hi dL_law_1599 dL_law_1600 dL_law_1601 dL_law_1602 dL_law_1603 rfl (by decide) ?_
    refine l_arg hC (pc := 1604) (j := 2) (jn := 2) hi dL_law_1604 dL_law_1605 dL_law_1606 dL_law_1607 dL_law_1608 rfl (by decide) ?_
    refine l_arg hC (pc := 1609) (j := 3) (jn := 3) hi dL_law_1609 dL_law_1610 dL_law_1611 dL_law_1612 dL_law_1613 rfl (by decide) ?_
    refine l_if0y hC (pc := 1614) (tgt := 1621) hz dL_law_1614 rfl ?_
    refine l_iconst hC (pc := 1621) (v := nI (Bool.toNat false)) dL_law_1621 rfl ?_
    refine l_callX hC (pc := 1622) (κ1 := κ1) (r := r) [.int (qx Γ (i + 1)), .int (qx Γ (i + 2)), .int (nI (Bool.toNat false))] [] (ctX10_see (Δ := lX Γ ρ) rfl rfl 50001 κ (qx Γ (i + 1)) (qx Γ (i + 2)) (nI (Bool.toNat false)) (r, κ1) e1) lk_227 (Nat.le_of_ble_eq_true rfl) (Nat.le_of_ble_eq_true rfl) rfl rfl (Nat.le_of_ble_eq_true rfl) dL_law_1622 ?_
    refine l_aload hC (pc := 1625) dL_law_1625 1 rfl rfl ?_
    refine l_arg hC (pc := 1626) (j := 1) (jn := 1) hi dL_law_1626 dL_law_1627 dL_law_1628 dL_law_1629 dL_law_1630 rfl (by decide) ?_
    refine l_arg hC (pc := 1631) (j := 2) (jn := 2) hi dL_law_1631 dL_law_1632 dL_law_1633 dL_law_1634 dL_law_1635 rfl (by decide) ?_
    refine l_arg hC (pc := 1636) (j := 3) (jn := 3) hi dL_law_1636 dL_law_1637 dL_law_1638 dL_law_1639 dL_law_1640 rfl (by decide) ?_
    refine l_if0y hC (pc := 1641) (tgt := 1648) hz dL_law_1641 rfl ?_
    refine l_iconst hC (pc := 1648) (v := nI (Bool.toNat false)) dL_law_1648 rfl ?_
    refine l_callM hC (pc := 1649) (ρ1 := ρ1) (r := r) [.int (qx Γ (i + 1)), .int (qx Γ (i + 2)), .int (nI (Bool.toNat false))] [.int r] (ctX11_see (Δ := lM Γ κ1) rfl rfl 50001 ρ (qx Γ (i + 1)) (qx Γ (i + 2)) (nI (Bool.toNat false)) (r, ρ1) e2) lk_231 (Nat.le_of_ble_eq_true rfl) (Nat.le_of_ble_eq_true rfl) rfl rfl (Nat.le_of_ble_eq_true rfl) dL_law_1649 ?_
    exact l_eq hC (pc := 1652) (tgt := 1729) dL_law_1652 rfl (kk κ1 ρ1 hv1)
  · obtain ⟨r, κ1, ρ1, hv1, e1, e2⟩ := c_see (F := 50001) hv (by decide) (qx Γ (i + 1)) (qx Γ (i + 2)) (true)
    refine l_aload hC (pc := 1598) dL_law_1598 2 rfl rfl ?_
    refine l_arg hC (pc := 1599) (j := 1) (jn := 1) hi dL_law_1599 dL_law_1600 dL_law_1601 dL_law_1602 dL_law_1603 rfl (by decide) ?_
    refine l_arg hC (pc := 1604) (j := 2) (jn := 2) hi dL_law_1604 dL_law_1605 dL_law_1606 dL_law_1607 dL_law_1608 rfl (by decide) ?_
    refine l_arg hC (pc := 1609) (j := 3) (jn := 3) hi dL_law_1609 dL_law_1610 dL_law_1611 dL_law_1612 dL_law_1613 rfl (by decide) ?_
    refine l_if0n hC (pc := 1614) (tgt := 1621) hz dL_law_1614 rfl ?_
    refine l_iconst hC (pc := 1617) (v := nI (Bool.toNat true)) dL_law_1617 rfl ?_
    refine l_goto hC (pc := 1618) (tgt := 1622) dL_law_1618 rfl ?_
    refine l_callX hC (pc := 1622) (κ1 := κ1) (r := r) [.int (qx Γ (i + 1)), .int (qx Γ (i + 2)), .int (nI (Bool.toNat true))] [] (ctX10_see (Δ := lX Γ ρ) rfl rfl 50001 κ (qx Γ (i + 1)) (qx Γ (i + 2)) (nI (Bool.toNat true)) (r, κ1) e1) lk_227 (Nat.le_of_ble_eq_true rfl) (Nat.le_of_ble_eq_true rfl) rfl rfl (Nat.le_of_ble_eq_true rfl) dL_law_1622 ?_
    refine l_aload hC (pc := 1625) dL_law_1625 1 rfl rfl ?_
    refine l_arg hC (pc := 1626) (j := 1) (jn := 1) hi dL_law_1626 dL_law_1627 dL_law_1628 dL_law_1629 dL_law_1630 rfl (by decide) ?_
    refine l_arg hC (pc := 1631) (j := 2) (jn := 2) hi dL_law_1631 dL_law_1632 dL_law_1633 dL_law_1634 dL_law_1635 rfl (by decide) ?_
    refine l_arg hC (pc := 1636) (j := 3) (jn := 3) hi dL_law_1636 dL_law_1637 dL_law_1638 dL_law_1639 dL_law_1640 rfl (by decide) ?_
    refine l_if0n hC (pc := 1641) (tgt := 1648) hz dL_law_1641 rfl ?_
    refine l_iconst hC (pc := 1644) (v := nI (Bool.toNat true)) dL_law_1644 rfl ?_
    refine l_goto hC (pc := 1645) (tgt := 1649) dL_law_1645 rfl ?_
    refine l_callM hC (pc := 1649) (ρ1 := ρ1) (r := r) [.int (qx Γ (i + 1)), .int (qx Γ (i + 2)), .int (nI (Bool.toNat true))] [.int r] (ctX11_see (Δ := lM Γ κ1) rfl rfl 50001 ρ (qx Γ (i + 1)) (qx Γ (i + 2)) (nI (Bool.toNat true)) (r, ρ1) e2) lk_231 (Nat.le_of_ble_eq_true rfl) (Nat.le_of_ble_eq_true rfl) rfl rfl (Nat.le_of_ble_eq_true rfl) dL_law_1649 ?_
    exact l_eq hC (pc := 1652) (tgt := 1729) dL_law_1652 rfl (kk κ1 ρ1 hv1)
theorem lcase_53 {Γ : LCtx} {κ ρ : Mem} (hC : lC Γ) {G : Gm} {H : Nat → Gm} {m : Nat} (hv : IV G H m κ ρ) {i : Nat} (hi : i + 6 ≤ qL Γ) (kk : ∀ κ1 ρ1, (∃ G H m, IV G H m κ1 ρ1) → LQ Γ κ1 ρ1 1729 (lo Γ i) []) : LQ Γ κ ρ 1657 (lo Γ i) [] := by
  obtain ⟨r, κ1, ρ1, hv1, e1, e2⟩ := c_shuffle (F := 50001) hv (by decide) (qx Γ (i + 1))
  refine l_aload hC (pc := 1657) dL_law_1657 2 rfl rfl ?_
  refine l_arg hC (pc := 1658) (j := 1) (jn := 1) hi dL_law_1658 dL_law_1659 dL_law_1660 dL_law_1661 dL_law_1662 rfl (by decide) ?_
  refine l_callX hC (pc := 1663) (κ1 := κ1) (r := r) [.int (qx Γ (i + 1))] [] (ctX10_shuffle (Δ := lX Γ ρ) rfl rfl 50001 κ (qx Γ (i + 1)) (r, κ1) e1) lk_232 (Nat.le_of_ble_eq_true rfl) (Nat.le_of_ble_eq_true rfl) rfl rfl (Nat.le_of_ble_eq_true rfl) dL_law_1663 ?_
  refine l_aload hC (pc := 1666) dL_law_1666 1 rfl rfl ?_
  refine l_arg hC (pc := 1667) (j := 1) (jn := 1) hi dL_law_1667 dL_law_1668 dL_law_1669 dL_law_1670 dL_law_1671 rfl (by decide) ?_
  refine l_callM hC (pc := 1672) (ρ1 := ρ1) (r := r) [.int (qx Γ (i + 1))] [.int r] (ctX11_shuffle (Δ := lM Γ κ1) rfl rfl 50001 ρ (qx Γ (i + 1)) (r, ρ1) e2) lk_235 (Nat.le_of_ble_eq_true rfl) (Nat.le_of_ble_eq_true rfl) rfl rfl (Nat.le_of_ble_eq_true rfl) dL_law_1672 ?_
  exact l_eq hC (pc := 1675) (tgt := 1729) dL_law_1675 rfl (kk κ1 ρ1 hv1)
theorem lcase_54 {Γ : LCtx} {κ ρ : Mem} (hC : lC Γ) {G : Gm} {H : Nat → Gm} {m : Nat} (hv : IV G H m κ ρ) {i : Nat} (hi : i + 6 ≤ qL Γ) (kk : ∀ κ1 ρ1, (∃ G H m, IV G H m κ1 ρ1) → LQ Γ κ1 ρ1 1729 (lo Γ i) []) : LQ Γ κ ρ 1680 (lo Γ i) [] := by
  obtain ⟨r, κ1, ρ1, hv1, e1, e2⟩ := c_undo (F := 50001) hv (by decide) 
  refine l_aload hC (pc := 1680) dL_law_1680 2 rfl rfl ?_
  refine l_callX hC (pc := 1681) (κ1 := κ1) (r := r) [] [] (ctX10_undo (Δ := lX Γ ρ) rfl rfl 50001 κ (r, κ1) e1) lk_236 (Nat.le_of_ble_eq_true rfl) (Nat.le_of_ble_eq_true rfl) rfl rfl (Nat.le_of_ble_eq_true rfl) dL_law_1681 ?_
  refine l_aload hC (pc := 1684) dL_law_1684 1 rfl rfl ?_
  refine l_callM hC (pc := 1685) (ρ1 := ρ1) (r := r) [] [.int r] (ctX11_undo (Δ := lM Γ κ1) rfl rfl 50001 ρ (r, ρ1) e2) lk_239 (Nat.le_of_ble_eq_true rfl) (Nat.le_of_ble_eq_true rfl) rfl rfl (Nat.le_of_ble_eq_true rfl) dL_law_1685 ?_
  exact l_eq hC (pc := 1688) (tgt := 1729) dL_law_1688 rfl (kk κ1 ρ1 hv1)
theorem lcase_55 {Γ : LCtx} {κ ρ : Mem} (hC : lC Γ) {G : Gm} {H : Nat → Gm} {m : Nat} (hv : IV G H m κ ρ) {i : Nat} (hi : i + 6 ≤ qL Γ) (kk : ∀ κ1 ρ1, (∃ G H m, IV G H m κ1 ρ1) → LQ Γ κ1 ρ1 1729 (lo Γ i) []) : LQ Γ κ ρ 1693 (lo Γ i) [] := by
  obtain ⟨r, κ1, ρ1, hv1, e1, e2⟩ := c_print (F := 50001) hv (by decide) 
  refine l_aload hC (pc := 1693) dL_law_1693 2 rfl rfl ?_
  refine l_callX hC (pc := 1694) (κ1 := κ1) (r := r) [] [] (ctX10_print (Δ := lX Γ ρ) rfl rfl 50001 κ (r, κ1) e1) lk_240 (Nat.le_of_ble_eq_true rfl) (Nat.le_of_ble_eq_true rfl) rfl rfl (Nat.le_of_ble_eq_true rfl) dL_law_1694 ?_
  refine l_aload hC (pc := 1697) dL_law_1697 1 rfl rfl ?_
  refine l_callM hC (pc := 1698) (ρ1 := ρ1) (r := r) [] [.int r] (ctX11_print (Δ := lM Γ κ1) rfl rfl 50001 ρ (r, ρ1) e2) lk_243 (Nat.le_of_ble_eq_true rfl) (Nat.le_of_ble_eq_true rfl) rfl rfl (Nat.le_of_ble_eq_true rfl) dL_law_1698 ?_
  exact l_eq hC (pc := 1701) (tgt := 1729) dL_law_1701 rfl (kk κ1 ρ1 hv1)
theorem lcase_56 {Γ : LCtx} {κ ρ : Mem} (hC : lC Γ) {G : Gm} {H : Nat → Gm} {m : Nat} (hv : IV G H m κ ρ) {i : Nat} (hi : i + 6 ≤ qL Γ) (kk : ∀ κ1 ρ1, (∃ G H m, IV G H m κ1 ρ1) → LQ Γ κ1 ρ1 1729 (lo Γ i) []) : LQ Γ κ ρ 1706 (lo Γ i) [] := by
  obtain ⟨r, κ1, ρ1, hv1, e1, e2⟩ := c_out (F := 50001) hv (by decide) (qx Γ (i + 1))
  refine l_aload hC (pc := 1706) dL_law_1706 2 rfl rfl ?_
  refine l_arg hC (pc := 1707) (j := 1) (jn := 1) hi dL_law_1707 dL_law_1708 dL_law_1709 dL_law_1710 dL_law_1711 rfl (by decide) ?_
  refine l_callX hC (pc := 1712) (κ1 := κ1) (r := r) [.int (qx Γ (i + 1))] [] (ctX10_out (Δ := lX Γ ρ) rfl rfl κ (qx Γ (i + 1)) (r, κ1) e1) lk_244 (Nat.le_of_ble_eq_true rfl) (Nat.le_of_ble_eq_true rfl) rfl rfl (Nat.le_of_ble_eq_true rfl) dL_law_1712 ?_
  refine l_aload hC (pc := 1715) dL_law_1715 1 rfl rfl ?_
  refine l_arg hC (pc := 1716) (j := 1) (jn := 1) hi dL_law_1716 dL_law_1717 dL_law_1718 dL_law_1719 dL_law_1720 rfl (by decide) ?_
  refine l_callM hC (pc := 1721) (ρ1 := ρ1) (r := r) [.int (qx Γ (i + 1))] [.int r] (ctX11_out (Δ := lM Γ κ1) rfl rfl ρ (qx Γ (i + 1)) (r, ρ1) e2) lk_247 (Nat.le_of_ble_eq_true rfl) (Nat.le_of_ble_eq_true rfl) rfl rfl (Nat.le_of_ble_eq_true rfl) dL_law_1721 ?_
  exact l_eq hC (pc := 1724) (tgt := 1729) dL_law_1724 rfl (kk κ1 ρ1 hv1)
