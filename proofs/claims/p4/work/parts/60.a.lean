theorem ab_and4' {a b c d : Bool} (h : (a && (b && (c && d))) = true) : a = true ∧ b = true ∧ c = true ∧ d = true := by
  simpa [Bool.and_eq_true] using h
noncomputable def pr_lw (t : Lean.RArray (Nat × sm_M)) : Bool := Lean.RArray.rec (motive := fun _ => Bool) (fun x => Nat.ble x.1 899) (fun _ _ _ l r => l && r) t

theorem pw_1104 : Cond.arrayClass .int ∈ sm_all := List.mem_filter.mpr ⟨List.mem_append_right _ (show _ ∈ tables_1 from (List.mem_append_left _ (List.mem_of_getElem? (i := 72) rfl))), rfl⟩
theorem pw_1105 : Cond.arrayClass .boolean ∈ sm_all := List.mem_filter.mpr ⟨List.mem_append_right _ (show _ ∈ tables_1 from (List.mem_append_right _ (List.mem_append_left _ (List.mem_of_getElem? (i := 18) rfl)))), rfl⟩
theorem pw_1106 : Cond.arrayClass .byte ∈ sm_all := List.mem_filter.mpr ⟨List.mem_append_right _ (show _ ∈ tables_1 from (List.mem_append_left _ (List.mem_of_getElem? (i := 71) rfl))), rfl⟩
theorem pw_1107 : Cond.arrayClass .long ∈ sm_all := List.mem_filter.mpr ⟨List.mem_append_right _ (show _ ∈ tables_1 from (List.mem_append_left _ (List.mem_of_getElem? (i := 73) rfl))), rfl⟩
theorem pw_1108 : u_lay RX0 TX0 0 ∈ sm_all := List.mem_filter.mpr ⟨List.mem_append_right _ (show _ ∈ tables_1 from (List.mem_append_left _ (List.mem_of_getElem? (i := 56) rfl))), rfl⟩
theorem pw_1109 : u_lay RX0 TX0 1 ∈ sm_all := List.mem_filter.mpr ⟨List.mem_append_right _ (show _ ∈ tables_1 from (List.mem_append_left _ (List.mem_of_getElem? (i := 58) rfl))), rfl⟩
theorem pw_1110 : u_lay RX0 TX0 2 ∈ sm_all := List.mem_filter.mpr ⟨List.mem_append_right _ (show _ ∈ tables_1 from (List.mem_append_left _ (List.mem_of_getElem? (i := 60) rfl))), rfl⟩
theorem pw_1111 : u_lay RX0 TX0 3 ∈ sm_all := List.mem_filter.mpr ⟨List.mem_append_right _ (show _ ∈ tables_1 from (List.mem_append_left _ (List.mem_of_getElem? (i := 62) rfl))), rfl⟩
theorem pw_1112 : u_lay RX0 TX0 4 ∈ sm_all := List.mem_filter.mpr ⟨List.mem_append_right _ (show _ ∈ tables_1 from (List.mem_append_left _ (List.mem_of_getElem? (i := 64) rfl))), rfl⟩
theorem pw_1113 : u_lay RX0 TX0 5 ∈ sm_all := List.mem_filter.mpr ⟨List.mem_append_right _ (show _ ∈ tables_1 from (List.mem_append_left _ (List.mem_of_getElem? (i := 66) rfl))), rfl⟩
theorem pw_1114 : u_lay RX0 TX0 6 ∈ sm_all := List.mem_filter.mpr ⟨List.mem_append_right _ (show _ ∈ tables_1 from (List.mem_append_left _ (List.mem_of_getElem? (i := 68) rfl))), rfl⟩
theorem pw_1115 : u_lay RX1 TX1 0 ∈ sm_all := List.mem_filter.mpr ⟨List.mem_append_right _ (show _ ∈ tables_1 from (List.mem_append_right _ (List.mem_append_left _ (List.mem_of_getElem? (i := 60) rfl)))), rfl⟩
theorem pw_1116 : u_lay RX1 TX1 1 ∈ sm_all := List.mem_filter.mpr ⟨List.mem_append_right _ (show _ ∈ tables_1 from (List.mem_append_right _ (List.mem_append_left _ (List.mem_of_getElem? (i := 62) rfl)))), rfl⟩
theorem pw_1117 : u_lay RX1 TX1 2 ∈ sm_all := List.mem_filter.mpr ⟨List.mem_append_right _ (show _ ∈ tables_1 from (List.mem_append_right _ (List.mem_append_left _ (List.mem_of_getElem? (i := 64) rfl)))), rfl⟩
theorem pw_1118 : u_lay RX1 TX1 3 ∈ sm_all := List.mem_filter.mpr ⟨List.mem_append_right _ (show _ ∈ tables_1 from (List.mem_append_right _ (List.mem_append_left _ (List.mem_of_getElem? (i := 66) rfl)))), rfl⟩
theorem pw_1119 : u_lay RX1 TX1 4 ∈ sm_all := List.mem_filter.mpr ⟨List.mem_append_right _ (show _ ∈ tables_1 from (List.mem_append_right _ (List.mem_append_left _ (List.mem_of_getElem? (i := 68) rfl)))), rfl⟩
theorem pw_1120 : u_lay RX1 TX1 5 ∈ sm_all := List.mem_filter.mpr ⟨List.mem_append_right _ (show _ ∈ tables_1 from (List.mem_append_right _ (List.mem_append_left _ (List.mem_of_getElem? (i := 70) rfl)))), rfl⟩
theorem pw_1121 : u_lay RX1 TX1 6 ∈ sm_all := List.mem_filter.mpr ⟨List.mem_append_right _ (show _ ∈ tables_1 from (List.mem_append_right _ (List.mem_append_left _ (List.mem_of_getElem? (i := 72) rfl)))), rfl⟩
theorem pw_1122 : u_lay RX1 TX1 7 ∈ sm_all := List.mem_filter.mpr ⟨List.mem_append_right _ (show _ ∈ tables_1 from (List.mem_append_right _ (List.mem_append_left _ (List.mem_of_getElem? (i := 74) rfl)))), rfl⟩
theorem pw_1123 : u_lay RX1 TX1 8 ∈ sm_all := List.mem_filter.mpr ⟨List.mem_append_right _ (show _ ∈ tables_1 from (List.mem_append_right _ (List.mem_append_left _ (List.mem_of_getElem? (i := 76) rfl)))), rfl⟩
theorem pw_1124 : u_lay RX1 TX1 9 ∈ sm_all := List.mem_filter.mpr ⟨List.mem_append_right _ (show _ ∈ tables_1 from (List.mem_append_right _ (List.mem_append_left _ (List.mem_of_getElem? (i := 78) rfl)))), rfl⟩
theorem pw_1125 : u_lay RX1 TX1 10 ∈ sm_all := List.mem_filter.mpr ⟨List.mem_append_right _ (show _ ∈ tables_1 from (List.mem_append_right _ (List.mem_append_left _ (List.mem_of_getElem? (i := 80) rfl)))), rfl⟩
theorem pw_1126 : u_lay RX2 TX2 0 ∈ sm_all := List.mem_filter.mpr ⟨List.mem_append_right _ (show _ ∈ tables_1 from (List.mem_append_right _ (List.mem_append_left _ (List.mem_of_getElem? (i := 112) rfl)))), rfl⟩
theorem pw_1127 : u_lay RX2 TX2 1 ∈ sm_all := List.mem_filter.mpr ⟨List.mem_append_right _ (show _ ∈ tables_1 from (List.mem_append_right _ (List.mem_append_left _ (List.mem_of_getElem? (i := 114) rfl)))), rfl⟩
theorem pw_1128 : u_lay RX2 TX2 2 ∈ sm_all := List.mem_filter.mpr ⟨List.mem_append_right _ (show _ ∈ tables_1 from (List.mem_append_right _ (List.mem_append_left _ (List.mem_of_getElem? (i := 116) rfl)))), rfl⟩
theorem pw_1129 : u_lay RX2 TX2 3 ∈ sm_all := List.mem_filter.mpr ⟨List.mem_append_right _ (show _ ∈ tables_1 from (List.mem_append_right _ (List.mem_append_left _ (List.mem_of_getElem? (i := 118) rfl)))), rfl⟩
theorem pw_1130 : u_lay RX2 TX2 4 ∈ sm_all := List.mem_filter.mpr ⟨List.mem_append_right _ (show _ ∈ tables_1 from (List.mem_append_right _ (List.mem_append_left _ (List.mem_of_getElem? (i := 120) rfl)))), rfl⟩
theorem pw_1131 : u_lay RX2 TX2 5 ∈ sm_all := List.mem_filter.mpr ⟨List.mem_append_right _ (show _ ∈ tables_1 from (List.mem_append_right _ (List.mem_append_left _ (List.mem_of_getElem? (i := 122) rfl)))), rfl⟩
theorem pw_1132 : u_lay RX2 TX2 6 ∈ sm_all := List.mem_filter.mpr ⟨List.mem_append_right _ (show _ ∈ tables_1 from (List.mem_append_right _ (List.mem_append_left _ (List.mem_of_getElem? (i := 124) rfl)))), rfl⟩
theorem pw_1133 : u_lay RX2 TX2 7 ∈ sm_all := List.mem_filter.mpr ⟨List.mem_append_right _ (show _ ∈ tables_1 from (List.mem_append_right _ (List.mem_append_left _ (List.mem_of_getElem? (i := 126) rfl)))), rfl⟩
theorem pw_1134 : u_lay RX2 TX2 8 ∈ sm_all := List.mem_filter.mpr ⟨List.mem_append_right _ (show _ ∈ tables_1 from (List.mem_append_right _ (List.mem_append_left _ (List.mem_of_getElem? (i := 128) rfl)))), rfl⟩
theorem pw_1135 : u_lay RX2 TX2 9 ∈ sm_all := List.mem_filter.mpr ⟨List.mem_append_right _ (show _ ∈ tables_1 from (List.mem_append_right _ (List.mem_append_left _ (List.mem_of_getElem? (i := 130) rfl)))), rfl⟩
theorem pw_1136 : u_lay RX2 TX2 10 ∈ sm_all := List.mem_filter.mpr ⟨List.mem_append_right _ (show _ ∈ tables_1 from (List.mem_append_right _ (List.mem_append_left _ (List.mem_of_getElem? (i := 132) rfl)))), rfl⟩
theorem pw_1137 : u_lay RX2 TX2 11 ∈ sm_all := List.mem_filter.mpr ⟨List.mem_append_right _ (show _ ∈ tables_1 from (List.mem_append_right _ (List.mem_append_left _ (List.mem_of_getElem? (i := 134) rfl)))), rfl⟩
theorem pw_1138 : u_lay RX3 TX3 0 ∈ sm_all := List.mem_filter.mpr ⟨List.mem_append_right _ (show _ ∈ tables_1 from (List.mem_append_left _ (List.mem_of_getElem? (i := 229) rfl))), rfl⟩
theorem pw_1139 : u_lay RX3 TX3 1 ∈ sm_all := List.mem_filter.mpr ⟨List.mem_append_right _ (show _ ∈ tables_1 from (List.mem_append_left _ (List.mem_of_getElem? (i := 231) rfl))), rfl⟩
theorem pw_1140 : u_lay RX3 TX3 2 ∈ sm_all := List.mem_filter.mpr ⟨List.mem_append_right _ (show _ ∈ tables_1 from (List.mem_append_left _ (List.mem_of_getElem? (i := 233) rfl))), rfl⟩
theorem pw_1141 : u_lay RX3 TX3 3 ∈ sm_all := List.mem_filter.mpr ⟨List.mem_append_right _ (show _ ∈ tables_1 from (List.mem_append_left _ (List.mem_of_getElem? (i := 235) rfl))), rfl⟩
theorem pw_1142 : u_lay RX3 TX3 4 ∈ sm_all := List.mem_filter.mpr ⟨List.mem_append_right _ (show _ ∈ tables_1 from (List.mem_append_left _ (List.mem_of_getElem? (i := 237) rfl))), rfl⟩
theorem pw_1143 : u_lay RX3 TX3 5 ∈ sm_all := List.mem_filter.mpr ⟨List.mem_append_right _ (show _ ∈ tables_1 from (List.mem_append_left _ (List.mem_of_getElem? (i := 239) rfl))), rfl⟩
theorem pw_1144 : u_lay RX3 TX3 6 ∈ sm_all := List.mem_filter.mpr ⟨List.mem_append_right _ (show _ ∈ tables_1 from (List.mem_append_right _ (List.mem_append_left _ (List.mem_of_getElem? (i := 1) rfl)))), rfl⟩
theorem pw_1145 : u_lay RX3 TX3 7 ∈ sm_all := List.mem_filter.mpr ⟨List.mem_append_right _ (show _ ∈ tables_1 from (List.mem_append_right _ (List.mem_append_left _ (List.mem_of_getElem? (i := 3) rfl)))), rfl⟩
theorem pw_1146 : u_lay RX3 TX3 8 ∈ sm_all := List.mem_filter.mpr ⟨List.mem_append_right _ (show _ ∈ tables_1 from (List.mem_append_right _ (List.mem_append_left _ (List.mem_of_getElem? (i := 5) rfl)))), rfl⟩
theorem pw_1147 : u_lay RX3 TX3 9 ∈ sm_all := List.mem_filter.mpr ⟨List.mem_append_right _ (show _ ∈ tables_1 from (List.mem_append_right _ (List.mem_append_left _ (List.mem_of_getElem? (i := 7) rfl)))), rfl⟩
theorem pw_1148 : u_lay RX3 TX3 10 ∈ sm_all := List.mem_filter.mpr ⟨List.mem_append_right _ (show _ ∈ tables_1 from (List.mem_append_right _ (List.mem_append_left _ (List.mem_of_getElem? (i := 9) rfl)))), rfl⟩
theorem pw_1149 : u_lay RX3 TX3 11 ∈ sm_all := List.mem_filter.mpr ⟨List.mem_append_right _ (show _ ∈ tables_1 from (List.mem_append_right _ (List.mem_append_left _ (List.mem_of_getElem? (i := 11) rfl)))), rfl⟩
theorem pw_1150 : u_lay RX3 TX3 12 ∈ sm_all := List.mem_filter.mpr ⟨List.mem_append_right _ (show _ ∈ tables_1 from (List.mem_append_right _ (List.mem_append_left _ (List.mem_of_getElem? (i := 13) rfl)))), rfl⟩
theorem pw_1151 : u_lay RX3 TX3 13 ∈ sm_all := List.mem_filter.mpr ⟨List.mem_append_right _ (show _ ∈ tables_1 from (List.mem_append_right _ (List.mem_append_left _ (List.mem_of_getElem? (i := 15) rfl)))), rfl⟩
theorem pw_1152 : u_lay RX4 TX4 0 ∈ sm_all := List.mem_filter.mpr ⟨List.mem_append_right _ (show _ ∈ tables_1 from (List.mem_append_left _ (List.mem_of_getElem? (i := 135) rfl))), rfl⟩
theorem pw_1153 : u_lay RX4 TX4 1 ∈ sm_all := List.mem_filter.mpr ⟨List.mem_append_right _ (show _ ∈ tables_1 from (List.mem_append_left _ (List.mem_of_getElem? (i := 137) rfl))), rfl⟩
theorem pw_1154 : u_lay RX4 TX4 2 ∈ sm_all := List.mem_filter.mpr ⟨List.mem_append_right _ (show _ ∈ tables_1 from (List.mem_append_left _ (List.mem_of_getElem? (i := 139) rfl))), rfl⟩
theorem pw_1155 : u_lay RX4 TX4 3 ∈ sm_all := List.mem_filter.mpr ⟨List.mem_append_right _ (show _ ∈ tables_1 from (List.mem_append_left _ (List.mem_of_getElem? (i := 141) rfl))), rfl⟩
theorem pw_1156 : u_lay RX4 TX4 4 ∈ sm_all := List.mem_filter.mpr ⟨List.mem_append_right _ (show _ ∈ tables_1 from (List.mem_append_left _ (List.mem_of_getElem? (i := 143) rfl))), rfl⟩
theorem pw_1157 : u_lay RX4 TX4 5 ∈ sm_all := List.mem_filter.mpr ⟨List.mem_append_right _ (show _ ∈ tables_1 from (List.mem_append_left _ (List.mem_of_getElem? (i := 145) rfl))), rfl⟩
theorem pw_1158 : u_lay RX4 TX4 6 ∈ sm_all := List.mem_filter.mpr ⟨List.mem_append_right _ (show _ ∈ tables_1 from (List.mem_append_left _ (List.mem_of_getElem? (i := 147) rfl))), rfl⟩
theorem pw_1159 : u_lay RX4 TX4 7 ∈ sm_all := List.mem_filter.mpr ⟨List.mem_append_right _ (show _ ∈ tables_1 from (List.mem_append_left _ (List.mem_of_getElem? (i := 149) rfl))), rfl⟩
theorem pw_1160 : u_lay RX4 TX4 8 ∈ sm_all := List.mem_filter.mpr ⟨List.mem_append_right _ (show _ ∈ tables_1 from (List.mem_append_left _ (List.mem_of_getElem? (i := 151) rfl))), rfl⟩
theorem pw_1161 : u_lay RX4 TX4 9 ∈ sm_all := List.mem_filter.mpr ⟨List.mem_append_right _ (show _ ∈ tables_1 from (List.mem_append_left _ (List.mem_of_getElem? (i := 153) rfl))), rfl⟩
theorem pw_1162 : u_lay RX4 TX4 10 ∈ sm_all := List.mem_filter.mpr ⟨List.mem_append_right _ (show _ ∈ tables_1 from (List.mem_append_left _ (List.mem_of_getElem? (i := 155) rfl))), rfl⟩
theorem pw_1163 : u_lay RX4 TX4 11 ∈ sm_all := List.mem_filter.mpr ⟨List.mem_append_right _ (show _ ∈ tables_1 from (List.mem_append_left _ (List.mem_of_getElem? (i := 157) rfl))), rfl⟩
theorem pw_1164 : u_lay RX4 TX4 12 ∈ sm_all := List.mem_filter.mpr ⟨List.mem_append_right _ (show _ ∈ tables_1 from (List.mem_append_left _ (List.mem_of_getElem? (i := 159) rfl))), rfl⟩
theorem pw_1165 : u_lay RX4 TX4 13 ∈ sm_all := List.mem_filter.mpr ⟨List.mem_append_right _ (show _ ∈ tables_1 from (List.mem_append_left _ (List.mem_of_getElem? (i := 161) rfl))), rfl⟩
theorem pw_1166 : u_lay RX4 TX4 14 ∈ sm_all := List.mem_filter.mpr ⟨List.mem_append_right _ (show _ ∈ tables_1 from (List.mem_append_left _ (List.mem_of_getElem? (i := 163) rfl))), rfl⟩
theorem pw_1167 : u_lay RX5 TX5 0 ∈ sm_all := List.mem_filter.mpr ⟨List.mem_append_right _ (show _ ∈ tables_1 from (List.mem_append_right _ (List.mem_append_left _ (List.mem_of_getElem? (i := 148) rfl)))), rfl⟩
theorem pw_1168 : u_lay RX5 TX5 1 ∈ sm_all := List.mem_filter.mpr ⟨List.mem_append_right _ (show _ ∈ tables_1 from (List.mem_append_right _ (List.mem_append_left _ (List.mem_of_getElem? (i := 150) rfl)))), rfl⟩
theorem pw_1169 : u_lay RX5 TX5 2 ∈ sm_all := List.mem_filter.mpr ⟨List.mem_append_right _ (show _ ∈ tables_1 from (List.mem_append_right _ (List.mem_append_left _ (List.mem_of_getElem? (i := 152) rfl)))), rfl⟩
theorem pw_1170 : u_lay RX5 TX5 3 ∈ sm_all := List.mem_filter.mpr ⟨List.mem_append_right _ (show _ ∈ tables_1 from (List.mem_append_right _ (List.mem_append_left _ (List.mem_of_getElem? (i := 154) rfl)))), rfl⟩
theorem pw_1171 : u_lay RX6 TX6 0 ∈ sm_all := List.mem_filter.mpr ⟨List.mem_append_right _ (show _ ∈ tables_1 from (List.mem_append_right _ (List.mem_append_left _ (List.mem_of_getElem? (i := 172) rfl)))), rfl⟩
theorem pw_1172 : u_lay RX6 TX6 1 ∈ sm_all := List.mem_filter.mpr ⟨List.mem_append_right _ (show _ ∈ tables_1 from (List.mem_append_right _ (List.mem_append_left _ (List.mem_of_getElem? (i := 174) rfl)))), rfl⟩
theorem pw_1173 : u_lay RX6 TX6 2 ∈ sm_all := List.mem_filter.mpr ⟨List.mem_append_right _ (show _ ∈ tables_1 from (List.mem_append_right _ (List.mem_append_left _ (List.mem_of_getElem? (i := 176) rfl)))), rfl⟩
theorem pw_1174 : u_lay RX6 TX6 3 ∈ sm_all := List.mem_filter.mpr ⟨List.mem_append_right _ (show _ ∈ tables_1 from (List.mem_append_right _ (List.mem_append_left _ (List.mem_of_getElem? (i := 178) rfl)))), rfl⟩
theorem pw_1175 : u_lay RX6 TX6 4 ∈ sm_all := List.mem_filter.mpr ⟨List.mem_append_right _ (show _ ∈ tables_1 from (List.mem_append_right _ (List.mem_append_left _ (List.mem_of_getElem? (i := 180) rfl)))), rfl⟩
theorem pw_1176 : u_lay RX6 TX6 5 ∈ sm_all := List.mem_filter.mpr ⟨List.mem_append_right _ (show _ ∈ tables_1 from (List.mem_append_right _ (List.mem_append_left _ (List.mem_of_getElem? (i := 182) rfl)))), rfl⟩
theorem pw_1177 : u_lay RX6 TX6 6 ∈ sm_all := List.mem_filter.mpr ⟨List.mem_append_right _ (show _ ∈ tables_1 from (List.mem_append_right _ (List.mem_append_left _ (List.mem_of_getElem? (i := 184) rfl)))), rfl⟩
theorem pw_1178 : u_lay RX7 TX7 0 ∈ sm_all := List.mem_filter.mpr ⟨List.mem_append_right _ (show _ ∈ tables_1 from (List.mem_append_right _ (List.mem_append_left _ (List.mem_of_getElem? (i := 212) rfl)))), rfl⟩
theorem pw_1179 : u_lay RX7 TX7 1 ∈ sm_all := List.mem_filter.mpr ⟨List.mem_append_right _ (show _ ∈ tables_1 from (List.mem_append_right _ (List.mem_append_left _ (List.mem_of_getElem? (i := 214) rfl)))), rfl⟩
theorem pw_1180 : u_lay RX7 TX7 2 ∈ sm_all := List.mem_filter.mpr ⟨List.mem_append_right _ (show _ ∈ tables_1 from (List.mem_append_right _ (List.mem_append_left _ (List.mem_of_getElem? (i := 216) rfl)))), rfl⟩
theorem pw_1181 : u_lay RX7 TX7 3 ∈ sm_all := List.mem_filter.mpr ⟨List.mem_append_right _ (show _ ∈ tables_1 from (List.mem_append_right _ (List.mem_append_left _ (List.mem_of_getElem? (i := 218) rfl)))), rfl⟩
theorem pw_1182 : u_lay RX7 TX7 4 ∈ sm_all := List.mem_filter.mpr ⟨List.mem_append_right _ (show _ ∈ tables_1 from (List.mem_append_right _ (List.mem_append_left _ (List.mem_of_getElem? (i := 220) rfl)))), rfl⟩
theorem pw_1183 : u_lay RX7 TX7 5 ∈ sm_all := List.mem_filter.mpr ⟨List.mem_append_right _ (show _ ∈ tables_1 from (List.mem_append_right _ (List.mem_append_left _ (List.mem_of_getElem? (i := 222) rfl)))), rfl⟩
theorem pw_1184 : u_lay RX7 TX7 6 ∈ sm_all := List.mem_filter.mpr ⟨List.mem_append_right _ (show _ ∈ tables_1 from (List.mem_append_right _ (List.mem_append_left _ (List.mem_of_getElem? (i := 224) rfl)))), rfl⟩
theorem pw_1185 : u_lay RX7 TX7 7 ∈ sm_all := List.mem_filter.mpr ⟨List.mem_append_right _ (show _ ∈ tables_1 from (List.mem_append_right _ (List.mem_append_left _ (List.mem_of_getElem? (i := 226) rfl)))), rfl⟩
theorem pw_1186 : u_lay RX7 TX7 8 ∈ sm_all := List.mem_filter.mpr ⟨List.mem_append_right _ (show _ ∈ tables_1 from (List.mem_append_right _ (List.mem_append_left _ (List.mem_of_getElem? (i := 228) rfl)))), rfl⟩
theorem pw_1187 : u_lay RX7 TX7 9 ∈ sm_all := List.mem_filter.mpr ⟨List.mem_append_right _ (show _ ∈ tables_1 from (List.mem_append_right _ (List.mem_append_left _ (List.mem_of_getElem? (i := 230) rfl)))), rfl⟩
theorem pw_1188 : u_lay RX7 TX7 10 ∈ sm_all := List.mem_filter.mpr ⟨List.mem_append_right _ (show _ ∈ tables_1 from (List.mem_append_right _ (List.mem_append_left _ (List.mem_of_getElem? (i := 232) rfl)))), rfl⟩
theorem pw_1189 : u_lay RX7 TX7 11 ∈ sm_all := List.mem_filter.mpr ⟨List.mem_append_right _ (show _ ∈ tables_1 from (List.mem_append_right _ (List.mem_append_left _ (List.mem_of_getElem? (i := 234) rfl)))), rfl⟩
theorem pw_1190 : u_lay RX7 TX7 12 ∈ sm_all := List.mem_filter.mpr ⟨List.mem_append_right _ (show _ ∈ tables_1 from (List.mem_append_right _ (List.mem_append_left _ (List.mem_of_getElem? (i := 236) rfl)))), rfl⟩
theorem pw_1191 : u_lay RX7 TX7 13 ∈ sm_all := List.mem_filter.mpr ⟨List.mem_append_right _ (show _ ∈ tables_1 from (List.mem_append_right _ (List.mem_append_left _ (List.mem_of_getElem? (i := 238) rfl)))), rfl⟩
theorem pw_1192 : u_lay RX7 TX7 14 ∈ sm_all := List.mem_filter.mpr ⟨List.mem_append_right _ (show _ ∈ tables_1 from (List.mem_append_right _ (List.mem_append_right _ (List.mem_append_left _ (List.mem_of_getElem? (i := 0) rfl))))), rfl⟩
theorem pw_1193 : u_lay RX7 TX7 15 ∈ sm_all := List.mem_filter.mpr ⟨List.mem_append_right _ (show _ ∈ tables_1 from (List.mem_append_right _ (List.mem_append_right _ (List.mem_append_left _ (List.mem_of_getElem? (i := 2) rfl))))), rfl⟩
theorem pw_1194 : u_lay RX7 TX7 16 ∈ sm_all := List.mem_filter.mpr ⟨List.mem_append_right _ (show _ ∈ tables_1 from (List.mem_append_right _ (List.mem_append_right _ (List.mem_append_left _ (List.mem_of_getElem? (i := 4) rfl))))), rfl⟩
theorem pw_1195 : u_lay RX8 TX8 0 ∈ sm_all := List.mem_filter.mpr ⟨List.mem_append_right _ (show _ ∈ tables_1 from (List.mem_append_right _ (List.mem_append_right _ (List.mem_append_right _ (List.mem_append_right _ (List.mem_append_left _ (List.mem_of_getElem? (i := 173) rfl))))))), rfl⟩
theorem pw_1196 : u_lay RX8 TX8 1 ∈ sm_all := List.mem_filter.mpr ⟨List.mem_append_right _ (show _ ∈ tables_1 from (List.mem_append_right _ (List.mem_append_right _ (List.mem_append_right _ (List.mem_append_right _ (List.mem_append_left _ (List.mem_of_getElem? (i := 175) rfl))))))), rfl⟩
theorem pw_1197 : u_lay RX8 TX8 2 ∈ sm_all := List.mem_filter.mpr ⟨List.mem_append_right _ (show _ ∈ tables_1 from (List.mem_append_right _ (List.mem_append_right _ (List.mem_append_right _ (List.mem_append_right _ (List.mem_append_left _ (List.mem_of_getElem? (i := 177) rfl))))))), rfl⟩
theorem pw_1198 : u_lay RX8 TX8 3 ∈ sm_all := List.mem_filter.mpr ⟨List.mem_append_right _ (show _ ∈ tables_1 from (List.mem_append_right _ (List.mem_append_right _ (List.mem_append_right _ (List.mem_append_right _ (List.mem_append_left _ (List.mem_of_getElem? (i := 179) rfl))))))), rfl⟩
theorem pw_1199 : u_lay RX8 TX8 4 ∈ sm_all := List.mem_filter.mpr ⟨List.mem_append_right _ (show _ ∈ tables_1 from (List.mem_append_right _ (List.mem_append_right _ (List.mem_append_right _ (List.mem_append_right _ (List.mem_append_left _ (List.mem_of_getElem? (i := 181) rfl))))))), rfl⟩
theorem pw_1200 : u_lay RX8 TX8 5 ∈ sm_all := List.mem_filter.mpr ⟨List.mem_append_right _ (show _ ∈ tables_1 from (List.mem_append_right _ (List.mem_append_right _ (List.mem_append_right _ (List.mem_append_right _ (List.mem_append_left _ (List.mem_of_getElem? (i := 183) rfl))))))), rfl⟩
theorem pw_1201 : u_lay RX8 TX8 6 ∈ sm_all := List.mem_filter.mpr ⟨List.mem_append_right _ (show _ ∈ tables_1 from (List.mem_append_right _ (List.mem_append_right _ (List.mem_append_right _ (List.mem_append_right _ (List.mem_append_left _ (List.mem_of_getElem? (i := 185) rfl))))))), rfl⟩
theorem pw_1202 : u_lay RX8 TX8 7 ∈ sm_all := List.mem_filter.mpr ⟨List.mem_append_right _ (show _ ∈ tables_1 from (List.mem_append_right _ (List.mem_append_right _ (List.mem_append_right _ (List.mem_append_right _ (List.mem_append_left _ (List.mem_of_getElem? (i := 187) rfl))))))), rfl⟩
theorem pw_1203 : u_lay RX8 TX8 8 ∈ sm_all := List.mem_filter.mpr ⟨List.mem_append_right _ (show _ ∈ tables_1 from (List.mem_append_right _ (List.mem_append_right _ (List.mem_append_right _ (List.mem_append_right _ (List.mem_append_left _ (List.mem_of_getElem? (i := 189) rfl))))))), rfl⟩
theorem pw_1204 : u_lay RX8 TX8 9 ∈ sm_all := List.mem_filter.mpr ⟨List.mem_append_right _ (show _ ∈ tables_1 from (List.mem_append_right _ (List.mem_append_right _ (List.mem_append_right _ (List.mem_append_right _ (List.mem_append_left _ (List.mem_of_getElem? (i := 191) rfl))))))), rfl⟩
theorem pw_1205 : u_lay RX8 TX8 10 ∈ sm_all := List.mem_filter.mpr ⟨List.mem_append_right _ (show _ ∈ tables_1 from (List.mem_append_right _ (List.mem_append_right _ (List.mem_append_right _ (List.mem_append_right _ (List.mem_append_left _ (List.mem_of_getElem? (i := 193) rfl))))))), rfl⟩
theorem pw_1206 : u_lay RX8 TX8 11 ∈ sm_all := List.mem_filter.mpr ⟨List.mem_append_right _ (show _ ∈ tables_1 from (List.mem_append_right _ (List.mem_append_right _ (List.mem_append_right _ (List.mem_append_right _ (List.mem_append_left _ (List.mem_of_getElem? (i := 195) rfl))))))), rfl⟩
theorem pw_1207 : u_lay RX8 TX8 12 ∈ sm_all := List.mem_filter.mpr ⟨List.mem_append_right _ (show _ ∈ tables_1 from (List.mem_append_right _ (List.mem_append_right _ (List.mem_append_right _ (List.mem_append_right _ (List.mem_append_left _ (List.mem_of_getElem? (i := 197) rfl))))))), rfl⟩
theorem pw_1208 : u_lay RX8 TX8 13 ∈ sm_all := List.mem_filter.mpr ⟨List.mem_append_right _ (show _ ∈ tables_1 from (List.mem_append_right _ (List.mem_append_right _ (List.mem_append_right _ (List.mem_append_right _ (List.mem_append_left _ (List.mem_of_getElem? (i := 199) rfl))))))), rfl⟩
theorem pw_1209 : u_lay RX8 TX8 14 ∈ sm_all := List.mem_filter.mpr ⟨List.mem_append_right _ (show _ ∈ tables_1 from (List.mem_append_right _ (List.mem_append_right _ (List.mem_append_right _ (List.mem_append_right _ (List.mem_append_left _ (List.mem_of_getElem? (i := 201) rfl))))))), rfl⟩
theorem pw_1210 : u_lay RX8 TX8 15 ∈ sm_all := List.mem_filter.mpr ⟨List.mem_append_right _ (show _ ∈ tables_1 from (List.mem_append_right _ (List.mem_append_right _ (List.mem_append_right _ (List.mem_append_right _ (List.mem_append_left _ (List.mem_of_getElem? (i := 203) rfl))))))), rfl⟩
theorem pw_1211 : u_lay RX8 TX8 16 ∈ sm_all := List.mem_filter.mpr ⟨List.mem_append_right _ (show _ ∈ tables_1 from (List.mem_append_right _ (List.mem_append_right _ (List.mem_append_right _ (List.mem_append_right _ (List.mem_append_left _ (List.mem_of_getElem? (i := 205) rfl))))))), rfl⟩
theorem pw_1212 : u_lay RX8 TX8 17 ∈ sm_all := List.mem_filter.mpr ⟨List.mem_append_right _ (show _ ∈ tables_1 from (List.mem_append_right _ (List.mem_append_right _ (List.mem_append_right _ (List.mem_append_right _ (List.mem_append_left _ (List.mem_of_getElem? (i := 207) rfl))))))), rfl⟩
theorem pw_1213 : u_lay RX8 TX8 18 ∈ sm_all := List.mem_filter.mpr ⟨List.mem_append_right _ (show _ ∈ tables_1 from (List.mem_append_right _ (List.mem_append_right _ (List.mem_append_right _ (List.mem_append_right _ (List.mem_append_left _ (List.mem_of_getElem? (i := 209) rfl))))))), rfl⟩
theorem pw_1214 : u_lay RX8 TX8 19 ∈ sm_all := List.mem_filter.mpr ⟨List.mem_append_right _ (show _ ∈ tables_1 from (List.mem_append_right _ (List.mem_append_right _ (List.mem_append_right _ (List.mem_append_right _ (List.mem_append_left _ (List.mem_of_getElem? (i := 211) rfl))))))), rfl⟩
theorem pw_1215 : u_lay RX8 TX8 20 ∈ sm_all := List.mem_filter.mpr ⟨List.mem_append_right _ (show _ ∈ tables_1 from (List.mem_append_right _ (List.mem_append_right _ (List.mem_append_right _ (List.mem_append_right _ (List.mem_append_left _ (List.mem_of_getElem? (i := 213) rfl))))))), rfl⟩
theorem pw_1216 : u_lay RX8 TX8 21 ∈ sm_all := List.mem_filter.mpr ⟨List.mem_append_right _ (show _ ∈ tables_1 from (List.mem_append_right _ (List.mem_append_right _ (List.mem_append_right _ (List.mem_append_right _ (List.mem_append_left _ (List.mem_of_getElem? (i := 215) rfl))))))), rfl⟩
theorem pw_1217 : u_lay RX8 TX8 22 ∈ sm_all := List.mem_filter.mpr ⟨List.mem_append_right _ (show _ ∈ tables_1 from (List.mem_append_right _ (List.mem_append_right _ (List.mem_append_right _ (List.mem_append_right _ (List.mem_append_left _ (List.mem_of_getElem? (i := 217) rfl))))))), rfl⟩
theorem pw_1218 : u_lay RX8 TX8 23 ∈ sm_all := List.mem_filter.mpr ⟨List.mem_append_right _ (show _ ∈ tables_1 from (List.mem_append_right _ (List.mem_append_right _ (List.mem_append_right _ (List.mem_append_right _ (List.mem_append_left _ (List.mem_of_getElem? (i := 219) rfl))))))), rfl⟩
theorem pw_1219 : u_lay RX8 TX8 24 ∈ sm_all := List.mem_filter.mpr ⟨List.mem_append_right _ (show _ ∈ tables_1 from (List.mem_append_right _ (List.mem_append_right _ (List.mem_append_right _ (List.mem_append_right _ (List.mem_append_left _ (List.mem_of_getElem? (i := 221) rfl))))))), rfl⟩
theorem pw_1220 : u_lay RX8 TX8 25 ∈ sm_all := List.mem_filter.mpr ⟨List.mem_append_right _ (show _ ∈ tables_1 from (List.mem_append_right _ (List.mem_append_right _ (List.mem_append_right _ (List.mem_append_right _ (List.mem_append_left _ (List.mem_of_getElem? (i := 223) rfl))))))), rfl⟩
theorem pw_1221 : u_lay RX8 TX8 26 ∈ sm_all := List.mem_filter.mpr ⟨List.mem_append_right _ (show _ ∈ tables_1 from (List.mem_append_right _ (List.mem_append_right _ (List.mem_append_right _ (List.mem_append_right _ (List.mem_append_left _ (List.mem_of_getElem? (i := 225) rfl))))))), rfl⟩
theorem pw_1222 : u_lay RX8 TX8 27 ∈ sm_all := List.mem_filter.mpr ⟨List.mem_append_right _ (show _ ∈ tables_1 from (List.mem_append_right _ (List.mem_append_right _ (List.mem_append_right _ (List.mem_append_right _ (List.mem_append_left _ (List.mem_of_getElem? (i := 227) rfl))))))), rfl⟩
theorem pw_1223 : u_lay RX8 TX8 28 ∈ sm_all := List.mem_filter.mpr ⟨List.mem_append_right _ (show _ ∈ tables_1 from (List.mem_append_right _ (List.mem_append_right _ (List.mem_append_right _ (List.mem_append_right _ (List.mem_append_left _ (List.mem_of_getElem? (i := 229) rfl))))))), rfl⟩
theorem pw_1224 : u_lay RX8 TX8 29 ∈ sm_all := List.mem_filter.mpr ⟨List.mem_append_right _ (show _ ∈ tables_1 from (List.mem_append_right _ (List.mem_append_right _ (List.mem_append_right _ (List.mem_append_right _ (List.mem_append_left _ (List.mem_of_getElem? (i := 231) rfl))))))), rfl⟩
theorem pw_1225 : u_lay RX8 TX8 30 ∈ sm_all := List.mem_filter.mpr ⟨List.mem_append_right _ (show _ ∈ tables_1 from (List.mem_append_right _ (List.mem_append_right _ (List.mem_append_right _ (List.mem_append_right _ (List.mem_append_left _ (List.mem_of_getElem? (i := 233) rfl))))))), rfl⟩
theorem pw_1226 : u_lay RX8 TX8 31 ∈ sm_all := List.mem_filter.mpr ⟨List.mem_append_right _ (show _ ∈ tables_1 from (List.mem_append_right _ (List.mem_append_right _ (List.mem_append_right _ (List.mem_append_right _ (List.mem_append_left _ (List.mem_of_getElem? (i := 235) rfl))))))), rfl⟩
theorem pw_1227 : u_lay RX8 TX8 32 ∈ sm_all := List.mem_filter.mpr ⟨List.mem_append_right _ (show _ ∈ tables_1 from (List.mem_append_right _ (List.mem_append_right _ (List.mem_append_right _ (List.mem_append_right _ (List.mem_append_left _ (List.mem_of_getElem? (i := 237) rfl))))))), rfl⟩
theorem pw_1228 : u_lay RX8 TX8 33 ∈ sm_all := List.mem_filter.mpr ⟨List.mem_append_right _ (show _ ∈ tables_1 from (List.mem_append_right _ (List.mem_append_right _ (List.mem_append_right _ (List.mem_append_right _ (List.mem_append_left _ (List.mem_of_getElem? (i := 239) rfl))))))), rfl⟩
theorem pw_1229 : u_lay RX8 TX8 34 ∈ sm_all := List.mem_filter.mpr ⟨List.mem_append_right _ (show _ ∈ tables_1 from (List.mem_append_right _ (List.mem_append_right _ (List.mem_append_right _ (List.mem_append_right _ (List.mem_append_right _ (List.mem_append_left _ (List.mem_of_getElem? (i := 1) rfl)))))))), rfl⟩
theorem pw_1230 : u_lay RX8 TX8 35 ∈ sm_all := List.mem_filter.mpr ⟨List.mem_append_right _ (show _ ∈ tables_1 from (List.mem_append_right _ (List.mem_append_right _ (List.mem_append_right _ (List.mem_append_right _ (List.mem_append_right _ (List.mem_append_left _ (List.mem_of_getElem? (i := 3) rfl)))))))), rfl⟩
theorem pw_1231 : u_lay RX8 TX8 36 ∈ sm_all := List.mem_filter.mpr ⟨List.mem_append_right _ (show _ ∈ tables_1 from (List.mem_append_right _ (List.mem_append_right _ (List.mem_append_right _ (List.mem_append_right _ (List.mem_append_right _ (List.mem_append_left _ (List.mem_of_getElem? (i := 5) rfl)))))))), rfl⟩
theorem pw_1232 : u_lay RX8 TX8 37 ∈ sm_all := List.mem_filter.mpr ⟨List.mem_append_right _ (show _ ∈ tables_1 from (List.mem_append_right _ (List.mem_append_right _ (List.mem_append_right _ (List.mem_append_right _ (List.mem_append_right _ (List.mem_append_left _ (List.mem_of_getElem? (i := 7) rfl)))))))), rfl⟩
theorem pw_1233 : u_lay RX8 TX8 38 ∈ sm_all := List.mem_filter.mpr ⟨List.mem_append_right _ (show _ ∈ tables_1 from (List.mem_append_right _ (List.mem_append_right _ (List.mem_append_right _ (List.mem_append_right _ (List.mem_append_right _ (List.mem_append_left _ (List.mem_of_getElem? (i := 9) rfl)))))))), rfl⟩
theorem pw_1234 : u_lay RX8 TX8 39 ∈ sm_all := List.mem_filter.mpr ⟨List.mem_append_right _ (show _ ∈ tables_1 from (List.mem_append_right _ (List.mem_append_right _ (List.mem_append_right _ (List.mem_append_right _ (List.mem_append_right _ (List.mem_append_left _ (List.mem_of_getElem? (i := 11) rfl)))))))), rfl⟩
theorem pw_1235 : u_lay RX8 TX8 40 ∈ sm_all := List.mem_filter.mpr ⟨List.mem_append_right _ (show _ ∈ tables_1 from (List.mem_append_right _ (List.mem_append_right _ (List.mem_append_right _ (List.mem_append_right _ (List.mem_append_right _ (List.mem_append_left _ (List.mem_of_getElem? (i := 13) rfl)))))))), rfl⟩
theorem pw_1236 : u_lay RX8 TX8 41 ∈ sm_all := List.mem_filter.mpr ⟨List.mem_append_right _ (show _ ∈ tables_1 from (List.mem_append_right _ (List.mem_append_right _ (List.mem_append_right _ (List.mem_append_right _ (List.mem_append_right _ (List.mem_append_left _ (List.mem_of_getElem? (i := 15) rfl)))))))), rfl⟩
theorem pw_1237 : u_lay RX8 TX8 42 ∈ sm_all := List.mem_filter.mpr ⟨List.mem_append_right _ (show _ ∈ tables_1 from (List.mem_append_right _ (List.mem_append_right _ (List.mem_append_right _ (List.mem_append_right _ (List.mem_append_right _ (List.mem_append_left _ (List.mem_of_getElem? (i := 17) rfl)))))))), rfl⟩
theorem pw_1238 : u_lay RX8 TX8 43 ∈ sm_all := List.mem_filter.mpr ⟨List.mem_append_right _ (show _ ∈ tables_1 from (List.mem_append_right _ (List.mem_append_right _ (List.mem_append_right _ (List.mem_append_right _ (List.mem_append_right _ (List.mem_append_left _ (List.mem_of_getElem? (i := 19) rfl)))))))), rfl⟩
theorem pw_1239 : u_lay RX8 TX8 44 ∈ sm_all := List.mem_filter.mpr ⟨List.mem_append_right _ (show _ ∈ tables_1 from (List.mem_append_right _ (List.mem_append_right _ (List.mem_append_right _ (List.mem_append_right _ (List.mem_append_right _ (List.mem_append_left _ (List.mem_of_getElem? (i := 21) rfl)))))))), rfl⟩
theorem pw_1240 : u_lay RX8 TX8 45 ∈ sm_all := List.mem_filter.mpr ⟨List.mem_append_right _ (show _ ∈ tables_1 from (List.mem_append_right _ (List.mem_append_right _ (List.mem_append_right _ (List.mem_append_right _ (List.mem_append_right _ (List.mem_append_left _ (List.mem_of_getElem? (i := 23) rfl)))))))), rfl⟩
theorem pw_1241 : u_lay RX8 TX8 46 ∈ sm_all := List.mem_filter.mpr ⟨List.mem_append_right _ (show _ ∈ tables_1 from (List.mem_append_right _ (List.mem_append_right _ (List.mem_append_right _ (List.mem_append_right _ (List.mem_append_right _ (List.mem_append_left _ (List.mem_of_getElem? (i := 25) rfl)))))))), rfl⟩
theorem pw_1242 : u_lay RX8 TX8 47 ∈ sm_all := List.mem_filter.mpr ⟨List.mem_append_right _ (show _ ∈ tables_1 from (List.mem_append_right _ (List.mem_append_right _ (List.mem_append_right _ (List.mem_append_right _ (List.mem_append_right _ (List.mem_append_left _ (List.mem_of_getElem? (i := 27) rfl)))))))), rfl⟩
theorem pw_1243 : u_lay RX8 TX8 48 ∈ sm_all := List.mem_filter.mpr ⟨List.mem_append_right _ (show _ ∈ tables_1 from (List.mem_append_right _ (List.mem_append_right _ (List.mem_append_right _ (List.mem_append_right _ (List.mem_append_right _ (List.mem_append_left _ (List.mem_of_getElem? (i := 29) rfl)))))))), rfl⟩
theorem pw_1244 : u_lay RX8 TX8 49 ∈ sm_all := List.mem_filter.mpr ⟨List.mem_append_right _ (show _ ∈ tables_1 from (List.mem_append_right _ (List.mem_append_right _ (List.mem_append_right _ (List.mem_append_right _ (List.mem_append_right _ (List.mem_append_left _ (List.mem_of_getElem? (i := 31) rfl)))))))), rfl⟩
theorem pw_1245 : u_lay RX8 TX8 50 ∈ sm_all := List.mem_filter.mpr ⟨List.mem_append_right _ (show _ ∈ tables_1 from (List.mem_append_right _ (List.mem_append_right _ (List.mem_append_right _ (List.mem_append_right _ (List.mem_append_right _ (List.mem_append_left _ (List.mem_of_getElem? (i := 33) rfl)))))))), rfl⟩
theorem pw_1246 : u_lay RX8 TX8 51 ∈ sm_all := List.mem_filter.mpr ⟨List.mem_append_right _ (show _ ∈ tables_1 from (List.mem_append_right _ (List.mem_append_right _ (List.mem_append_right _ (List.mem_append_right _ (List.mem_append_right _ (List.mem_append_left _ (List.mem_of_getElem? (i := 35) rfl)))))))), rfl⟩
theorem pw_1247 : u_lay RX8 TX8 52 ∈ sm_all := List.mem_filter.mpr ⟨List.mem_append_right _ (show _ ∈ tables_1 from (List.mem_append_right _ (List.mem_append_right _ (List.mem_append_right _ (List.mem_append_right _ (List.mem_append_right _ (List.mem_append_left _ (List.mem_of_getElem? (i := 37) rfl)))))))), rfl⟩
theorem pw_1248 : u_lay RX8 TX8 53 ∈ sm_all := List.mem_filter.mpr ⟨List.mem_append_right _ (show _ ∈ tables_1 from (List.mem_append_right _ (List.mem_append_right _ (List.mem_append_right _ (List.mem_append_right _ (List.mem_append_right _ (List.mem_append_left _ (List.mem_of_getElem? (i := 39) rfl)))))))), rfl⟩
theorem pw_1249 : u_lay RX8 TX8 54 ∈ sm_all := List.mem_filter.mpr ⟨List.mem_append_right _ (show _ ∈ tables_1 from (List.mem_append_right _ (List.mem_append_right _ (List.mem_append_right _ (List.mem_append_right _ (List.mem_append_right _ (List.mem_append_left _ (List.mem_of_getElem? (i := 41) rfl)))))))), rfl⟩
theorem pw_1250 : u_lay RX8 TX8 55 ∈ sm_all := List.mem_filter.mpr ⟨List.mem_append_right _ (show _ ∈ tables_1 from (List.mem_append_right _ (List.mem_append_right _ (List.mem_append_right _ (List.mem_append_right _ (List.mem_append_right _ (List.mem_append_left _ (List.mem_of_getElem? (i := 43) rfl)))))))), rfl⟩
theorem pw_1251 : u_lay RX8 TX8 56 ∈ sm_all := List.mem_filter.mpr ⟨List.mem_append_right _ (show _ ∈ tables_1 from (List.mem_append_right _ (List.mem_append_right _ (List.mem_append_right _ (List.mem_append_right _ (List.mem_append_right _ (List.mem_append_left _ (List.mem_of_getElem? (i := 45) rfl)))))))), rfl⟩
theorem pw_1252 : u_lay RX8 TX8 57 ∈ sm_all := List.mem_filter.mpr ⟨List.mem_append_right _ (show _ ∈ tables_1 from (List.mem_append_right _ (List.mem_append_right _ (List.mem_append_right _ (List.mem_append_right _ (List.mem_append_right _ (List.mem_append_left _ (List.mem_of_getElem? (i := 47) rfl)))))))), rfl⟩
theorem pw_1253 : u_lay RX8 TX8 58 ∈ sm_all := List.mem_filter.mpr ⟨List.mem_append_right _ (show _ ∈ tables_1 from (List.mem_append_right _ (List.mem_append_right _ (List.mem_append_right _ (List.mem_append_right _ (List.mem_append_right _ (List.mem_append_left _ (List.mem_of_getElem? (i := 49) rfl)))))))), rfl⟩
theorem pw_1254 : u_lay RX8 TX8 59 ∈ sm_all := List.mem_filter.mpr ⟨List.mem_append_right _ (show _ ∈ tables_1 from (List.mem_append_right _ (List.mem_append_right _ (List.mem_append_right _ (List.mem_append_right _ (List.mem_append_right _ (List.mem_append_left _ (List.mem_of_getElem? (i := 51) rfl)))))))), rfl⟩
theorem pw_1255 : u_lay RX8 TX8 60 ∈ sm_all := List.mem_filter.mpr ⟨List.mem_append_right _ (show _ ∈ tables_1 from (List.mem_append_right _ (List.mem_append_right _ (List.mem_append_right _ (List.mem_append_right _ (List.mem_append_right _ (List.mem_append_left _ (List.mem_of_getElem? (i := 53) rfl)))))))), rfl⟩
theorem pw_1256 : u_lay RX8 TX8 61 ∈ sm_all := List.mem_filter.mpr ⟨List.mem_append_right _ (show _ ∈ tables_1 from (List.mem_append_right _ (List.mem_append_right _ (List.mem_append_right _ (List.mem_append_right _ (List.mem_append_right _ (List.mem_append_left _ (List.mem_of_getElem? (i := 55) rfl)))))))), rfl⟩
theorem pw_1257 : u_lay RX8 TX8 62 ∈ sm_all := List.mem_filter.mpr ⟨List.mem_append_right _ (show _ ∈ tables_1 from (List.mem_append_right _ (List.mem_append_right _ (List.mem_append_right _ (List.mem_append_right _ (List.mem_append_right _ (List.mem_append_left _ (List.mem_of_getElem? (i := 57) rfl)))))))), rfl⟩
theorem pw_1258 : u_lay RX8 TX8 63 ∈ sm_all := List.mem_filter.mpr ⟨List.mem_append_right _ (show _ ∈ tables_1 from (List.mem_append_right _ (List.mem_append_right _ (List.mem_append_right _ (List.mem_append_right _ (List.mem_append_right _ (List.mem_append_left _ (List.mem_of_getElem? (i := 59) rfl)))))))), rfl⟩
theorem pw_1259 : u_lay RX8 TX8 64 ∈ sm_all := List.mem_filter.mpr ⟨List.mem_append_right _ (show _ ∈ tables_1 from (List.mem_append_right _ (List.mem_append_right _ (List.mem_append_right _ (List.mem_append_right _ (List.mem_append_right _ (List.mem_append_left _ (List.mem_of_getElem? (i := 61) rfl)))))))), rfl⟩
theorem pw_1260 : u_lay RX8 TX8 65 ∈ sm_all := List.mem_filter.mpr ⟨List.mem_append_right _ (show _ ∈ tables_1 from (List.mem_append_right _ (List.mem_append_right _ (List.mem_append_right _ (List.mem_append_right _ (List.mem_append_right _ (List.mem_append_left _ (List.mem_of_getElem? (i := 63) rfl)))))))), rfl⟩
theorem pw_1261 : u_lay RX8 TX8 66 ∈ sm_all := List.mem_filter.mpr ⟨List.mem_append_right _ (show _ ∈ tables_1 from (List.mem_append_right _ (List.mem_append_right _ (List.mem_append_right _ (List.mem_append_right _ (List.mem_append_right _ (List.mem_append_left _ (List.mem_of_getElem? (i := 65) rfl)))))))), rfl⟩
theorem pw_1262 : u_lay RX8 TX8 67 ∈ sm_all := List.mem_filter.mpr ⟨List.mem_append_right _ (show _ ∈ tables_1 from (List.mem_append_right _ (List.mem_append_right _ (List.mem_append_right _ (List.mem_append_right _ (List.mem_append_right _ (List.mem_append_left _ (List.mem_of_getElem? (i := 67) rfl)))))))), rfl⟩
theorem pw_1263 : u_lay RX8 TX8 68 ∈ sm_all := List.mem_filter.mpr ⟨List.mem_append_right _ (show _ ∈ tables_1 from (List.mem_append_right _ (List.mem_append_right _ (List.mem_append_right _ (List.mem_append_right _ (List.mem_append_right _ (List.mem_append_left _ (List.mem_of_getElem? (i := 69) rfl)))))))), rfl⟩
theorem pw_1264 : u_lay RX8 TX8 69 ∈ sm_all := List.mem_filter.mpr ⟨List.mem_append_right _ (show _ ∈ tables_1 from (List.mem_append_right _ (List.mem_append_right _ (List.mem_append_right _ (List.mem_append_right _ (List.mem_append_right _ (List.mem_append_left _ (List.mem_of_getElem? (i := 71) rfl)))))))), rfl⟩
theorem pw_1265 : u_lay RX8 TX8 70 ∈ sm_all := List.mem_filter.mpr ⟨List.mem_append_right _ (show _ ∈ tables_1 from (List.mem_append_right _ (List.mem_append_right _ (List.mem_append_right _ (List.mem_append_right _ (List.mem_append_right _ (List.mem_append_left _ (List.mem_of_getElem? (i := 73) rfl)))))))), rfl⟩
theorem pw_1266 : u_lay RX8 TX8 71 ∈ sm_all := List.mem_filter.mpr ⟨List.mem_append_right _ (show _ ∈ tables_1 from (List.mem_append_right _ (List.mem_append_right _ (List.mem_append_right _ (List.mem_append_right _ (List.mem_append_right _ (List.mem_append_left _ (List.mem_of_getElem? (i := 75) rfl)))))))), rfl⟩
theorem pw_1267 : u_lay RX8 TX8 72 ∈ sm_all := List.mem_filter.mpr ⟨List.mem_append_right _ (show _ ∈ tables_1 from (List.mem_append_right _ (List.mem_append_right _ (List.mem_append_right _ (List.mem_append_right _ (List.mem_append_right _ (List.mem_append_left _ (List.mem_of_getElem? (i := 77) rfl)))))))), rfl⟩
theorem pw_1268 : u_lay RX8 TX8 73 ∈ sm_all := List.mem_filter.mpr ⟨List.mem_append_right _ (show _ ∈ tables_1 from (List.mem_append_right _ (List.mem_append_right _ (List.mem_append_right _ (List.mem_append_right _ (List.mem_append_right _ (List.mem_append_left _ (List.mem_of_getElem? (i := 79) rfl)))))))), rfl⟩
theorem pw_1269 : u_lay RX8 TX8 74 ∈ sm_all := List.mem_filter.mpr ⟨List.mem_append_right _ (show _ ∈ tables_1 from (List.mem_append_right _ (List.mem_append_right _ (List.mem_append_right _ (List.mem_append_right _ (List.mem_append_right _ (List.mem_append_left _ (List.mem_of_getElem? (i := 81) rfl)))))))), rfl⟩
theorem pw_1270 : u_lay RX8 TX8 75 ∈ sm_all := List.mem_filter.mpr ⟨List.mem_append_right _ (show _ ∈ tables_1 from (List.mem_append_right _ (List.mem_append_right _ (List.mem_append_right _ (List.mem_append_right _ (List.mem_append_right _ (List.mem_append_left _ (List.mem_of_getElem? (i := 83) rfl)))))))), rfl⟩
theorem pw_1271 : u_lay RX8 TX8 76 ∈ sm_all := List.mem_filter.mpr ⟨List.mem_append_right _ (show _ ∈ tables_1 from (List.mem_append_right _ (List.mem_append_right _ (List.mem_append_right _ (List.mem_append_right _ (List.mem_append_right _ (List.mem_append_left _ (List.mem_of_getElem? (i := 85) rfl)))))))), rfl⟩
theorem pw_1272 : u_lay RX8 TX8 77 ∈ sm_all := List.mem_filter.mpr ⟨List.mem_append_right _ (show _ ∈ tables_1 from (List.mem_append_right _ (List.mem_append_right _ (List.mem_append_right _ (List.mem_append_right _ (List.mem_append_right _ (List.mem_append_left _ (List.mem_of_getElem? (i := 87) rfl)))))))), rfl⟩
theorem pw_1273 : u_lay RX8 TX8 78 ∈ sm_all := List.mem_filter.mpr ⟨List.mem_append_right _ (show _ ∈ tables_1 from (List.mem_append_right _ (List.mem_append_right _ (List.mem_append_right _ (List.mem_append_right _ (List.mem_append_right _ (List.mem_append_left _ (List.mem_of_getElem? (i := 89) rfl)))))))), rfl⟩
theorem pw_1274 : u_lay RX8 TX8 79 ∈ sm_all := List.mem_filter.mpr ⟨List.mem_append_right _ (show _ ∈ tables_1 from (List.mem_append_right _ (List.mem_append_right _ (List.mem_append_right _ (List.mem_append_right _ (List.mem_append_right _ (List.mem_append_left _ (List.mem_of_getElem? (i := 91) rfl)))))))), rfl⟩
theorem pw_1275 : u_lay RX8 TX8 80 ∈ sm_all := List.mem_filter.mpr ⟨List.mem_append_right _ (show _ ∈ tables_1 from (List.mem_append_right _ (List.mem_append_right _ (List.mem_append_right _ (List.mem_append_right _ (List.mem_append_right _ (List.mem_append_left _ (List.mem_of_getElem? (i := 93) rfl)))))))), rfl⟩
theorem pw_1276 : u_lay RX8 TX8 81 ∈ sm_all := List.mem_filter.mpr ⟨List.mem_append_right _ (show _ ∈ tables_1 from (List.mem_append_right _ (List.mem_append_right _ (List.mem_append_right _ (List.mem_append_right _ (List.mem_append_right _ (List.mem_append_left _ (List.mem_of_getElem? (i := 95) rfl)))))))), rfl⟩
theorem pw_1277 : u_lay RX8 TX8 82 ∈ sm_all := List.mem_filter.mpr ⟨List.mem_append_right _ (show _ ∈ tables_1 from (List.mem_append_right _ (List.mem_append_right _ (List.mem_append_right _ (List.mem_append_right _ (List.mem_append_right _ (List.mem_append_left _ (List.mem_of_getElem? (i := 97) rfl)))))))), rfl⟩
theorem pw_1278 : u_lay RX8 TX8 83 ∈ sm_all := List.mem_filter.mpr ⟨List.mem_append_right _ (show _ ∈ tables_1 from (List.mem_append_right _ (List.mem_append_right _ (List.mem_append_right _ (List.mem_append_right _ (List.mem_append_right _ (List.mem_append_left _ (List.mem_of_getElem? (i := 99) rfl)))))))), rfl⟩
theorem pw_1279 : Cond.instantiable RX0 7 ∈ sm_all := List.mem_filter.mpr ⟨List.mem_append_right _ (show _ ∈ tables_1 from (List.mem_append_left _ (List.mem_of_getElem? (i := 38) rfl))), rfl⟩
theorem pw_1280 : Cond.instantiable RX1 11 ∈ sm_all := List.mem_filter.mpr ⟨List.mem_append_right _ (show _ ∈ tables_1 from (List.mem_append_right _ (List.mem_append_left _ (List.mem_of_getElem? (i := 20) rfl)))), rfl⟩
theorem pw_1281 : Cond.instantiable RX2 12 ∈ sm_all := List.mem_filter.mpr ⟨List.mem_append_right _ (show _ ∈ tables_1 from (List.mem_append_right _ (List.mem_append_left _ (List.mem_of_getElem? (i := 84) rfl)))), rfl⟩
theorem pw_1282 : Cond.instantiable RX3 14 ∈ sm_all := List.mem_filter.mpr ⟨List.mem_append_right _ (show _ ∈ tables_1 from (List.mem_append_left _ (List.mem_of_getElem? (i := 167) rfl))), rfl⟩
theorem pw_1283 : Cond.instantiable RX4 15 ∈ sm_all := List.mem_filter.mpr ⟨List.mem_append_right _ (show _ ∈ tables_1 from (List.mem_append_left _ (List.mem_of_getElem? (i := 30) rfl))), rfl⟩
theorem pw_1284 : Cond.instantiable RX5 4 ∈ sm_all := List.mem_filter.mpr ⟨List.mem_append_right _ (show _ ∈ tables_1 from (List.mem_append_right _ (List.mem_append_left _ (List.mem_of_getElem? (i := 138) rfl)))), rfl⟩
theorem pw_1285 : Cond.instantiable RX6 7 ∈ sm_all := List.mem_filter.mpr ⟨List.mem_append_right _ (show _ ∈ tables_1 from (List.mem_append_right _ (List.mem_append_left _ (List.mem_of_getElem? (i := 158) rfl)))), rfl⟩
theorem pw_1286 : Cond.instantiable RX7 17 ∈ sm_all := List.mem_filter.mpr ⟨List.mem_append_right _ (show _ ∈ tables_1 from (List.mem_append_left _ (List.mem_of_getElem? (i := 22) rfl))), rfl⟩
theorem pw_1287 : Cond.instantiable RX8 84 ∈ sm_all := List.mem_filter.mpr ⟨List.mem_append_right _ (show _ ∈ tables_1 from (List.mem_append_right _ (List.mem_append_right _ (List.mem_append_right _ (List.mem_append_right _ (List.mem_append_left _ (List.mem_of_getElem? (i := 61) rfl))))))), rfl⟩
theorem ar_int : Cond.arrayClass .int ∈ sm_all := pw_1104
theorem ar_bool : Cond.arrayClass .boolean ∈ sm_all := pw_1105
theorem ar_byte : Cond.arrayClass .byte ∈ sm_all := pw_1106
theorem ar_long : Cond.arrayClass .long ∈ sm_all := pw_1107
/-! The links of the tables. -/
def ab_AllT {α : Type} (P : Nat × α → Prop) (t : Lean.RArray (Nat × α)) : Prop := Lean.RArray.rec (motive := fun _ => Prop) (fun x => P x) (fun _ _ _ l r => l ∧ r) t
theorem ab_AllT_get {α : Type} {P : Nat × α → Prop} {t : Lean.RArray (Nat × α)} (h : ab_AllT P t) {j : Nat} {v : α} (hg : ab_get t j = some v) : P (j, v) := by
  induction t with
  | leaf x =>
    rw [ab_get_leaf] at hg
    split at hg
    · next e =>
      cases hg
      subst e
      exact h
    · cases hg
  | branch p l r ihl ihr =>
    rw [ab_get_branch] at hg
    have h : ab_AllT P l ∧ ab_AllT P r := h
    split at hg
    · exact ihr h.2 hg
    · exact ihl h.1 hg
theorem pr_low_of {t : Lean.RArray (Nat × sm_M)} (h : pr_lw t = true) : ab_AllT (fun q => q.1 < 900) t := by
  induction t with
  | leaf x => exact Nat.lt_succ_of_le (Nat.ble_eq.mp h)
  | branch p l r ihl ihr =>
    have h : (pr_lw l && pr_lw r) = true := h
    have h1 := (Bool.and_eq_true _ _).mp h
    exact ⟨ihl h1.1, ihr h1.2⟩
theorem pr_low : ab_AllT (fun q => q.1 < 900) pr_pt := pr_low_of (t := pr_pt) (by decide +kernel)
/-- a link: 0 a field, 1 a final field of its own class, 2 a final field of another, 3 an int, 4 the text, 5 a long, 6 new, 7 a call, 8 a call taken as one step, 9 rows of rows -/
def lkP (own : String) (q : Nat × Nat × List Nat) : Prop := match q.2.1 with
  | 0 => ∀ ci k t, q.2.2 = [ci, k, t] → sm_fl own q.1 ci k t ∧ ∀ ini, sm_fp own ini q.1 ci k t
  | 1 => ∀ ci k t, q.2.2 = [ci, k, t] → sm_fl own q.1 ci k t ∧ sm_fp own true q.1 ci k t
  | 2 => ∀ ci k t, q.2.2 = [ci, k, t] → sm_fl own q.1 ci k t
  | 3 => ∃ x, q.2.2 = [0, x] ∧ Cond.constant own q.1 (Int32.ofNat x) ∈ sm_all
  | 4 => q.2.2 = [1, 0] ∧ own = RX3 ∧ q.1 = 58
  | 5 => ∃ x, q.2.2 = [2, x] ∧ Cond.constantLong own q.1 (Int64.ofNat x) ∈ sm_all
  | 6 => ∀ ci, q.2.2 = [ci] → ∃ (C : String) (T : u_T) (N : Nat), vwCl[ci]? = some (C, T, N) ∧ Cond.classLink own q.1 C ∈ sm_all
  | 7 => ∃ mid M, q.2.2 = [mid] ∧ mid < 900 ∧ pr_P mid = some M ∧ sm_ml own q.1 M.1 ∧ sm_mok M
  | 8 => ∃ k, q.2.2 = [k] ∧ ((k = 900 ∧ Cond.methodLink own q.1 objectInit ∈ sm_all) ∨ (k = 901 ∧ Cond.methodLink own q.1 arraycopyName ∈ sm_all) ∨ (k = 902 ∧ Cond.methodLink own q.1 yJ0_charAt_5068e ∈ sm_all) ∨ (k = 903 ∧ Cond.methodLink own q.1 yL_groove ∈ sm_all ∧ own = RL) ∨ (k = 904 ∧ Cond.methodLink own q.1 arraycopyName ∈ sm_all))
  | 10 => q.2.2 = [1, 2] ∧ own = RX3 ∧ q.1 = 170
  | _ => Cond.classLink own q.1 ("[" ++ (FieldType.array .int).toString) ∈ sm_all
def pr_ix (i : Instr) : Option Nat := match i with
  | .invokevirtual idx => some idx
  | .invokestatic idx => some idx
  | .invokespecial idx => some idx
  | _ => none
/-- the calls that are taken as one step -/
def pr_L (own : String) (i : Instr) (dt : List Nat) : Prop := ∀ idx k, pr_ix i = some idx → dt = [k] → (k = 900 → Cond.methodLink own idx objectInit ∈ sm_all) ∧ (k = 901 → Cond.methodLink own idx arraycopyName ∈ sm_all) ∧ (k = 902 → Cond.methodLink own idx yJ0_charAt_5068e ∈ sm_all) ∧ (k = 903 → Cond.methodLink own idx yL_groove ∈ sm_all ∧ own = RL) ∧ (k = 904 → Cond.methodLink own idx arraycopyName ∈ sm_all)
abbrev lk_T : Type := Lean.RArray (Nat × (Nat × List Nat))
noncomputable def lk_is (pl : lk_T) (ks : List Nat) (idx : Nat) (dt : List Nat) : Bool := match ab_get pl idx with
  | some e => ks.any (fun k => Nat.beq k e.1) && decide (e.2 = dt)
  | none => false
noncomputable def pr_chk (ini : Bool) (pl : lk_T) (e : Nat × ab_I) : Bool := match e.2.2.2.1 with
  | .getfield idx => lk_is pl [0, 1, 2] idx e.2.2.2.2.2
  | .putfield idx => lk_is pl [0] idx e.2.2.2.2.2 || (ini && lk_is pl [1] idx e.2.2.2.2.2)
  | .ldc idx => lk_is pl [3, 4] idx e.2.2.2.2.2
  | .ldc2_w idx => lk_is pl [5] idx e.2.2.2.2.2
  | .ldc_w idx => lk_is pl [3] idx e.2.2.2.2.2
  | .getstatic idx => lk_is pl [10] idx e.2.2.2.2.2
  | .new idx => lk_is pl [6] idx e.2.2.2.2.2
  | .newarray at0 => (match at0 with
    | .int => true
    | .boolean => true
    | .byte => true
    | .long => true
    | _ => false)
  | .multianewarray idx _ => lk_is pl [9] idx []
  | .invokevirtual idx => lk_is pl [7, 8] idx e.2.2.2.2.2
  | .invokestatic idx => lk_is pl [7, 8] idx e.2.2.2.2.2
  | .invokespecial idx => lk_is pl [7, 8] idx e.2.2.2.2.2
  | _ => true
theorem lk_is_ok {own : String} {pl : lk_T} {ks : List Nat} {idx : Nat} {dt : List Nat} (hp : ab_AllT (lkP own) pl) (h : lk_is pl ks idx dt = true) : ∃ k ∈ ks, lkP own (idx, k, dt) := by
  unfold lk_is at h
  split at h
  · next e he =>
    have h1 := (Bool.and_eq_true _ _).mp h
    obtain ⟨k, hk, hb⟩ := List.any_eq_true.mp h1.1
    have e1 := Nat.eq_of_beq_eq_true hb
    have e2 := of_decide_eq_true h1.2
    have h2 := ab_AllT_get hp he
    obtain ⟨a, b⟩ := e
    dsimp only at e1 e2
    subst e1; subst e2
    exact ⟨_, hk, h2⟩
  · cases h
def pr_ok (own : String) (ini : Bool) (i : Instr) (dt : List Nat) : Prop := sm_lh own ini i dt ∧ sm_lm own i dt ∧ sm_lc pr_P own i dt ∧ pr_L own i dt
theorem pr_cl (own : String) {idx : Nat} {dt : List Nat} (h : ∃ k ∈ [7, 8], lkP own (idx, k, dt)) : (∀ mid M, dt = [mid] → pr_P mid = some M → sm_ml own idx M.1 ∧ sm_mok M) ∧ (∀ k, dt = [k] → (k = 900 → Cond.methodLink own idx objectInit ∈ sm_all) ∧ (k = 901 → Cond.methodLink own idx arraycopyName ∈ sm_all) ∧ (k = 902 → Cond.methodLink own idx yJ0_charAt_5068e ∈ sm_all) ∧ (k = 903 → Cond.methodLink own idx yL_groove ∈ sm_all ∧ own = RL) ∧ (k = 904 → Cond.methodLink own idx arraycopyName ∈ sm_all)) := by
  obtain ⟨k, hk, h⟩ := h
  rcases List.mem_cons.mp hk with rfl | hk
  · obtain ⟨mid, M, h1, h2, h3, h4, h5⟩ := h
    dsimp only at h1 h4
    subst h1
    refine ⟨fun mid' M' e1 e2 => ?_, fun k e => ?_⟩
    · cases e1
      rw [h3] at e2
      cases e2
      exact ⟨h4, h5⟩
    · cases e
      exact ⟨fun q => by omega, fun q => by omega, fun q => by omega, fun q => by omega, fun q => by omega⟩
  · obtain rfl := List.mem_singleton.mp hk
    obtain ⟨k, h1, h2⟩ := h
    dsimp only at h1 h2
    subst h1
    have hn : ∀ k, 900 ≤ k → pr_P k = none := fun k hk => by
      unfold pr_P
      cases hg : ab_get pr_pt k with
      | none => rfl
      | some M =>
        have h9 := ab_AllT_get (P := fun q => q.1 < 900) pr_low hg
        dsimp only at h9
        omega
    refine ⟨fun mid' M' e1 e2 => ?_, fun k e => ?_⟩
    · cases e1
      rw [hn _ (by rcases h2 with h | h | h | h | h <;> omega)] at e2
      cases e2
    · cases e
      refine ⟨fun q => ?_, fun q => ?_, fun q => ?_, fun q => ?_, fun q => ?_⟩
      · rcases h2 with h | h | h | h | h
        · exact h.2
        · omega
        · omega
        · omega
        · omega
      · rcases h2 with h | h | h | h | h
        · omega
        · exact h.2
        · omega
        · omega
        · omega
      · rcases h2 with h | h | h | h | h
        · omega
        · omega
        · exact h.2
        · omega
        · omega
      · rcases h2 with h | h | h | h | h
        · omega
        · omega
        · omega
        · exact h.2
        · omega
      · rcases h2 with h | h | h | h | h
        · omega
        · omega
        · omega
        · omega
        · exact h.2
theorem pr_L0 {own : String} {i : Instr} {dt : List Nat} (h : pr_ix i = none) : pr_L own i dt := fun idx k e _ => by rw [h] at e; cases e
theorem pr_chk_ok {own : String} {ini : Bool} {pl : lk_T} (hp : ab_AllT (lkP own) pl) {e : Nat × ab_I} (h : pr_chk ini pl e = true) : pr_ok own ini e.2.2.2.1 e.2.2.2.2.2 := by
  obtain ⟨pc, w, g, i, len, dt⟩ := e
  unfold pr_chk at h
  dsimp only at h ⊢
  cases i
  case getfield idx =>
    obtain ⟨k, hk, h1⟩ := lk_is_ok hp h
    refine ⟨fun ci k' t e => ?_, trivial, trivial, pr_L0 rfl⟩
    rcases List.mem_cons.mp hk with rfl | hk
    · exact (h1 ci k' t e).1
    · rcases List.mem_cons.mp hk with rfl | hk
      · exact (h1 ci k' t e).1
      · obtain rfl := List.mem_singleton.mp hk
        exact h1 ci k' t e
  case putfield idx =>
    refine ⟨fun ci k' t e => ?_, trivial, trivial, pr_L0 rfl⟩
    rcases Bool.or_eq_true_iff.mp h with h | h
    · obtain ⟨k, hk, h1⟩ := lk_is_ok hp h
      obtain rfl := List.mem_singleton.mp hk
      exact (h1 ci k' t e).2 ini
    · have h2 := (Bool.and_eq_true _ _).mp h
      obtain ⟨k, hk, h1⟩ := lk_is_ok hp h2.2
      obtain rfl := List.mem_singleton.mp hk
      rw [h2.1]
      exact (h1 ci k' t e).2
  case ldc idx =>
    obtain ⟨k, hk, h1⟩ := lk_is_ok hp h
    refine ⟨?_, trivial, trivial, pr_L0 rfl⟩
    rcases List.mem_cons.mp hk with rfl | hk
    · obtain ⟨x, e, h2⟩ := h1
      dsimp only at e h2
      subst e
      exact ⟨(fun x e => by cases e; exact h2), (fun x e => by cases e), (fun x e => by cases e)⟩
    · obtain rfl := List.mem_singleton.mp hk
      obtain ⟨e, h2, h3⟩ := h1
      dsimp only at e h3
      subst e
      exact ⟨(fun x e => by cases e), (fun x e => by cases e; exact ⟨h2, h3, rfl⟩), (fun x e => by cases e)⟩
  case ldc_w idx =>
    obtain ⟨k, hk, h1⟩ := lk_is_ok hp h
    refine ⟨?_, trivial, trivial, pr_L0 rfl⟩
    obtain rfl := List.mem_singleton.mp hk
    obtain ⟨x, e, h2⟩ := h1
    dsimp only at e h2
    subst e
    exact ⟨(fun x e => by cases e; exact h2), (fun x e => by cases e), (fun x e => by cases e)⟩
  case getstatic idx =>
    obtain ⟨k, hk, h1⟩ := lk_is_ok hp h
    refine ⟨?_, trivial, trivial, pr_L0 rfl⟩
    obtain rfl := List.mem_singleton.mp hk
    obtain ⟨e, h2, h3⟩ := h1
    dsimp only at e h3
    subst e
    exact ⟨(fun x e => by cases e; exact ⟨h2, h3, rfl⟩), (fun x e => by cases e), (fun x e => by cases e)⟩
  case ldc2_w idx =>
    obtain ⟨k, hk, h1⟩ := lk_is_ok hp h
    refine ⟨?_, trivial, trivial, pr_L0 rfl⟩
    obtain rfl := List.mem_singleton.mp hk
    obtain ⟨x, e, h2⟩ := h1
    dsimp only at e h2
    subst e
    exact ⟨(fun x e => by cases e; exact h2), (fun x e => by cases e), (fun x e => by cases e)⟩
  case new idx =>
    obtain ⟨k, hk, h1⟩ := lk_is_ok hp h
    obtain rfl := List.mem_singleton.mp hk
    exact ⟨trivial, h1, trivial, pr_L0 rfl⟩
  case newarray at0 =>
    refine ⟨trivial, ?_, trivial, pr_L0 rfl⟩
    cases at0 <;> first | exact ar_int | exact ar_bool | exact ar_byte | exact ar_long | cases h
  case multianewarray idx d =>
    obtain ⟨k, hk, h1⟩ := lk_is_ok hp h
    obtain rfl := List.mem_singleton.mp hk
    exact ⟨trivial, ⟨h1, ar_int⟩, trivial, pr_L0 rfl⟩
  case invokevirtual idx =>
    have h1 := pr_cl own (lk_is_ok hp h)
    exact ⟨trivial, trivial, h1.1, fun i k e1 e2 => by cases e1; exact h1.2 k e2⟩
  case invokestatic idx =>
    have h1 := pr_cl own (lk_is_ok hp h)
    exact ⟨trivial, trivial, h1.1, fun i k e1 e2 => by cases e1; exact h1.2 k e2⟩
  case invokespecial idx =>
    have h1 := pr_cl own (lk_is_ok hp h)
    exact ⟨trivial, trivial, h1.1, fun i k e1 e2 => by cases e1; exact h1.2 k e2⟩
  all_goals exact ⟨trivial, trivial, trivial, pr_L0 rfl⟩
/-! rows for the leaves -/
theorem lk_f0 {own : String} {idx ci k t : Nat} {C : String} {T : u_T} {N : Nat} {ty : FieldType} (h1 : vwCl[ci]? = some (C, T, N)) (h2 : k < N) (h3 : parseFieldDescriptor (T k).2.2.1 = some ty) (h4 : sm_tc ty = t) (h5 : (T k).2.2.2 = false) (h6 : Cond.fieldLink own idx (T k).1 (T k).2.1 (T k).2.2.1 ∈ sm_all ∨ ∃ host, (own, idx, (T k).1, (T k).2.1, (T k).2.2.1, host) ∈ nfl) : lkP own (idx, 0, [ci, k, t]) := fun ci' k' t' e => by
  cases e
  exact ⟨⟨C, T, N, ty, h1, h2, h3, h4, h6⟩, fun _ => ⟨C, T, N, ty, h1, h2, h3, h4, Or.inl ⟨h5, h6⟩⟩⟩
theorem lk_f1 {own : String} {idx ci k t : Nat} {C : String} {T : u_T} {N : Nat} {ty : FieldType} (h1 : vwCl[ci]? = some (C, T, N)) (h2 : k < N) (h3 : parseFieldDescriptor (T k).2.2.1 = some ty) (h4 : sm_tc ty = t) (h5 : (T k).2.2.2 = true) (h6 : (T k).1 = own) (h7 : Cond.fieldLink own idx (T k).1 (T k).2.1 (T k).2.2.1 ∈ sm_all) : lkP own (idx, 1, [ci, k, t]) := fun ci' k' t' e => by
  cases e
  exact ⟨⟨C, T, N, ty, h1, h2, h3, h4, Or.inl h7⟩, ⟨C, T, N, ty, h1, h2, h3, h4, Or.inr ⟨h5, rfl, h6, h7⟩⟩⟩
theorem lk_f2 {own : String} {idx ci k t : Nat} {C : String} {T : u_T} {N : Nat} {ty : FieldType} (h1 : vwCl[ci]? = some (C, T, N)) (h2 : k < N) (h3 : parseFieldDescriptor (T k).2.2.1 = some ty) (h4 : sm_tc ty = t) (h6 : Cond.fieldLink own idx (T k).1 (T k).2.1 (T k).2.2.1 ∈ sm_all ∨ ∃ host, (own, idx, (T k).1, (T k).2.1, (T k).2.2.1, host) ∈ nfl) : lkP own (idx, 2, [ci, k, t]) := fun ci' k' t' e => by
  cases e
  exact ⟨C, T, N, ty, h1, h2, h3, h4, h6⟩
theorem lk_nw {own : String} {idx ci : Nat} {C : String} {T : u_T} {N : Nat} (h1 : vwCl[ci]? = some (C, T, N)) (h2 : Cond.classLink own idx C ∈ sm_all) : lkP own (idx, 6, [ci]) := fun ci' e => by
  cases e
  exact ⟨C, T, N, h1, h2⟩
theorem lk_cl {own : String} {idx mid : Nat} {M : sm_M} (h1 : pr_P mid = some M) (h0 : mid < 900) (h2 : sm_ml own idx M.1) (h3 : sm_mok M) : lkP own (idx, 7, [mid]) := ⟨mid, M, rfl, h0, h1, h2, h3⟩
def mokb (M : sm_M) : Bool := plainName M.1.cls && (decide (M.1.cls ≠ "java/lang/invoke/MethodHandle") && (decide (M.1.cls ≠ "java/lang/invoke/VarHandle") && decide ((parseMethodDescriptor M.1.desc).map (fun d => d.parameters.length) = some M.2.2.2.2.1)))
theorem mk0 {M : sm_M} (h : mokb M = true) (h0 : M.2.2.2.2.2.1 = 0) (h1 : Cond.code M.1 M.2.1 M.2.2.1 M.2.2.2.1 ∈ sm_all) (h2 : Cond.initialized M.1.cls ∈ sm_all) (h3 : Cond.static M.1 ∈ sm_all) : sm_mok M := by
  obtain ⟨a, b, c, d⟩ := ab_and4' h
  exact ⟨a, h1, h2, ⟨of_decide_eq_true b, of_decide_eq_true c, of_decide_eq_true d⟩, fun _ => h3, (fun q => by rw [h0] at q; cases q), (fun q => by rw [h0] at q; cases q)⟩
theorem mk1 {M : sm_M} (h : mokb M = true) (h0 : M.2.2.2.2.2.1 = 1) (h1 : Cond.code M.1 M.2.1 M.2.2.1 M.2.2.2.1 ∈ sm_all) (h2 : Cond.initialized M.1.cls ∈ sm_all) (h3 : Cond.instanceMethod M.1 ∈ sm_all) (h4 : Cond.selects M.1.cls M.1 M.1 ∈ sm_all) {T : u_T} {N : Nat} (h5 : vwCl[M.2.2.2.2.2.2]? = some (M.1.cls, T, N)) : sm_mok M := by
  obtain ⟨a, b, c, d⟩ := ab_and4' h
  exact ⟨a, h1, h2, ⟨of_decide_eq_true b, of_decide_eq_true c, of_decide_eq_true d⟩, (fun q => by rw [h0] at q; cases q), fun _ => ⟨h3, h4, T, N, h5⟩, (fun q => by rw [h0] at q; cases q)⟩
theorem mk2 {M : sm_M} (h : mokb M = true) (h0 : M.2.2.2.2.2.1 = 2) (h1 : Cond.code M.1 M.2.1 M.2.2.1 M.2.2.2.1 ∈ sm_all) (h2 : Cond.initialized M.1.cls ∈ sm_all) (h3 : Cond.instanceMethod M.1 ∈ sm_all) (h4 : M.1.name = "<init>") (h5 : M.2.2.2.1 = none) : sm_mok M := by
  obtain ⟨a, b, c, d⟩ := ab_and4' h
  exact ⟨a, h1, h2, ⟨of_decide_eq_true b, of_decide_eq_true c, of_decide_eq_true d⟩, (fun q => by rw [h0] at q; cases q), (fun q => by rw [h0] at q; cases q), fun _ => ⟨h3, h4, h5⟩⟩
/-- a method as the tables have it -/
def pr_om (M : sm_M) (m : ab_M) : Prop := ∀ (pc : Nat) (e : ab_I), ab_get m.2.2.2.2.2 pc = some e → decode M.2.1 pc = .ok (e.2.2.1, e.2.2.2.1) ∧ (sm_len e.2.2.1 = 0 ∨ e.2.2.2.1 = sm_len e.2.2.1) ∧ pr_ok M.1.cls (decide (M.2.2.2.2.2.1 = 2)) e.2.2.1 e.2.2.2.2
theorem pr_om_of {M : sm_M} {m : ab_M} {pl : lk_T} (hp : ab_AllT (lkP M.1.cls) pl) (hd : pr_dk M.2.1 (ab_lvs m.2.2.2.2.2)) (hk : (ab_lvs m.2.2.2.2.2).all (pr_chk (decide (M.2.2.2.2.2.1 = 2)) pl) = true) : pr_om M m := fun pc e he => by
  have h1 := ab_lvs_mem he
  have h2 := hd _ h1
  exact ⟨h2.1, h2.2, pr_chk_ok hp (List.all_eq_true.mp hk _ h1)⟩
def pr_o2 (t : Lean.RArray (Nat × sm_M)) : Lean.RArray (Nat × ab_M) → Prop := Lean.RArray.rec (motive := fun _ => Lean.RArray (Nat × ab_M) → Prop)
  (fun x t2 => Lean.RArray.rec (motive := fun _ => Prop) (fun y => x.1 = y.1 ∧ pr_om x.2 y.2) (fun _ _ _ _ _ => False) t2)
  (fun p _ _ il ir t2 => Lean.RArray.rec (motive := fun _ => Prop) (fun _ => False) (fun q l2 r2 _ _ => p = q ∧ (il l2 ∧ ir r2)) t2) t
theorem pr_o2_get {t : Lean.RArray (Nat × sm_M)} {t2 : Lean.RArray (Nat × ab_M)} (h : pr_o2 t t2) {j : Nat} {M : sm_M} {m : ab_M} (h1 : ab_get t j = some M) (h2 : ab_get t2 j = some m) : pr_om M m := by
  induction t generalizing t2 with
  | leaf x =>
    cases t2 with
    | leaf y =>
      have h : x.1 = y.1 ∧ pr_om x.2 y.2 := h
      rw [ab_get_leaf] at h1 h2
      split at h1
      · cases h1
        split at h2
        · cases h2
          exact h.2
        · cases h2
      · cases h1
    | branch _ _ _ => exact (show False from h).elim
  | branch p l r ihl ihr =>
    cases t2 with
    | leaf y => exact (show False from h).elim
    | branch q l2 r2 =>
      have h : p = q ∧ (pr_o2 l l2 ∧ pr_o2 r r2) := h
      obtain ⟨rfl, h3, h4⟩ := h
      rw [ab_get_branch] at h1 h2
      split at h1
      · next e => rw [if_pos e] at h2; exact ihr h4 h1 h2
      · next e => rw [if_neg e] at h2; exact ihl h3 h1 h2
theorem pr_pok_of (h : pr_o2 pr_pt pr_mt) : sm_pok pr_P pr_K pr_L := by
  intro mid M pc i len dt hP hK
  unfold pr_K at hK
  split at hK
  · next m hm =>
    cases he : ab_get m.2.2.2.2.2 pc with
    | none => rw [he] at hK; cases hK
    | some e =>
      rw [he] at hK
      cases hK
      obtain ⟨a, b, c⟩ := pr_o2_get h hP hm pc e he
      exact ⟨a, b, c.1, c.2.1, c.2.2.1, c.2.2.2⟩
  · cases hK

