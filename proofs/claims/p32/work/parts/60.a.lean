section
theorem ab_and4' {a b c d : Bool} (h : (a && (b && (c && d))) = true) : a = true ∧ b = true ∧ c = true ∧ d = true := by
  simpa [Bool.and_eq_true] using h
noncomputable def pr_lw (t : Lean.RArray (Nat × sm_M)) : Bool := Lean.RArray.rec (motive := fun _ => Bool) (fun x => Nat.ble x.1 899) (fun _ _ _ l r => l && r) t

theorem pw_1104 : Cond.arrayClass .int ∈ sm_all := List.mem_filter.mpr ⟨List.mem_append_right _ (show _ ∈ tables_1 from (List.mem_append_left _ (List.mem_of_getElem? (i := 72) rfl))), rfl⟩
theorem pw_1105 : Cond.arrayClass .boolean ∈ sm_all := List.mem_filter.mpr ⟨List.mem_append_right _ (show _ ∈ tables_1 from (List.mem_append_right _ (List.mem_append_left _ (List.mem_of_getElem? (i := 18) rfl)))), rfl⟩
theorem pw_1106 : Cond.arrayClass .byte ∈ sm_all := List.mem_filter.mpr ⟨List.mem_append_right _ (show _ ∈ tables_1 from (List.mem_append_left _ (List.mem_of_getElem? (i := 71) rfl))), rfl⟩
theorem pw_1107 : Cond.arrayClass .long ∈ sm_all := List.mem_filter.mpr ⟨List.mem_append_right _ (show _ ∈ tables_1 from (List.mem_append_left _ (List.mem_of_getElem? (i := 73) rfl))), rfl⟩
theorem pw_1108 : u_lay RX0 TX0 0 ∈ sm_all := List.mem_filter.mpr ⟨List.mem_append_right _ (show _ ∈ tables_1 from (List.mem_append_left _ (List.mem_of_getElem? (i := 56) rfl))), rfl⟩
theorem pw_1109 : u_lay RX0 TX0 1 ∈ sm_all := List.mem_filter.mpr ⟨List.mem_append_right _ (show _ ∈ tables_1 from (List.mem_append_left _ (List.mem_of_getElem? (i := 58) rfl))), rfl⟩
theorem pw_1110 : u_lay RX0 TX0 2 ∈ sm_all := List.mem_filter.mpr ⟨List.mem_append_right _ (show _ ∈ tables_1 from (List.mem_append_left _ (List.mem_of_getElem? (i := 60) rfl))), rfl⟩
theorem pw_1111 : u_lay RX0 TX0 3 ∈ sm_all := List.mem_filter.mpr ⟨List.mem_append_right _ (show _ ∈ tables_1 from (List.mem_append_left _ (List.mem_of_getElem? (i := 62) rfl))), rfl⟩
theorem pw_1112 : u_lay RX0 TX0 4 ∈ sm_all := List.mem_filter.mpr ⟨List.mem_append_right _ (show _ ∈ tables_1 from (List.mem_append_left _ (List.mem_of_getElem? (i := 64) rfl))), rfl⟩
theorem pw_1113 : u_lay RX0 TX0 5 ∈ sm_all := List.mem_filter.mpr ⟨List.mem_append_right _ (show _ ∈ tables_1 from (List.mem_append_left _ (List.mem_of_getElem? (i := 66) rfl))), rfl⟩
theorem pw_1114 : u_lay RX0 TX0 6 ∈ sm_all := List.mem_filter.mpr ⟨List.mem_append_right _ (show _ ∈ tables_1 from (List.mem_append_left _ (List.mem_of_getElem? (i := 68) rfl))), rfl⟩
theorem pw_1115 : u_lay RX1 TX1 0 ∈ sm_all := List.mem_filter.mpr ⟨List.mem_append_right _ (show _ ∈ tables_1 from (List.mem_append_right _ (List.mem_append_left _ (List.mem_of_getElem? (i := 60) rfl)))), rfl⟩
theorem pw_1116 : u_lay RX1 TX1 1 ∈ sm_all := List.mem_filter.mpr ⟨List.mem_append_right _ (show _ ∈ tables_1 from (List.mem_append_right _ (List.mem_append_left _ (List.mem_of_getElem? (i := 62) rfl)))), rfl⟩
theorem pw_1117 : u_lay RX1 TX1 2 ∈ sm_all := List.mem_filter.mpr ⟨List.mem_append_right _ (show _ ∈ tables_1 from (List.mem_append_right _ (List.mem_append_left _ (List.mem_of_getElem? (i := 64) rfl)))), rfl⟩
theorem pw_1118 : u_lay RX1 TX1 3 ∈ sm_all := List.mem_filter.mpr ⟨List.mem_append_right _ (show _ ∈ tables_1 from (List.mem_append_right _ (List.mem_append_left _ (List.mem_of_getElem? (i := 66) rfl)))), rfl⟩
theorem pw_1119 : u_lay RX1 TX1 4 ∈ sm_all := List.mem_filter.mpr ⟨List.mem_append_right _ (show _ ∈ tables_1 from (List.mem_append_right _ (List.mem_append_left _ (List.mem_of_getElem? (i := 68) rfl)))), rfl⟩
theorem pw_1120 : u_lay RX1 TX1 5 ∈ sm_all := List.mem_filter.mpr ⟨List.mem_append_right _ (show _ ∈ tables_1 from (List.mem_append_right _ (List.mem_append_left _ (List.mem_of_getElem? (i := 70) rfl)))), rfl⟩
theorem pw_1121 : u_lay RX1 TX1 6 ∈ sm_all := List.mem_filter.mpr ⟨List.mem_append_right _ (show _ ∈ tables_1 from (List.mem_append_right _ (List.mem_append_left _ (List.mem_of_getElem? (i := 72) rfl)))), rfl⟩
theorem pw_1122 : u_lay RX1 TX1 7 ∈ sm_all := List.mem_filter.mpr ⟨List.mem_append_right _ (show _ ∈ tables_1 from (List.mem_append_right _ (List.mem_append_left _ (List.mem_of_getElem? (i := 74) rfl)))), rfl⟩
theorem pw_1123 : u_lay RX1 TX1 8 ∈ sm_all := List.mem_filter.mpr ⟨List.mem_append_right _ (show _ ∈ tables_1 from (List.mem_append_right _ (List.mem_append_left _ (List.mem_of_getElem? (i := 76) rfl)))), rfl⟩
theorem pw_1124 : u_lay RX1 TX1 9 ∈ sm_all := List.mem_filter.mpr ⟨List.mem_append_right _ (show _ ∈ tables_1 from (List.mem_append_right _ (List.mem_append_left _ (List.mem_of_getElem? (i := 78) rfl)))), rfl⟩
theorem pw_1125 : u_lay RX1 TX1 10 ∈ sm_all := List.mem_filter.mpr ⟨List.mem_append_right _ (show _ ∈ tables_1 from (List.mem_append_right _ (List.mem_append_left _ (List.mem_of_getElem? (i := 80) rfl)))), rfl⟩
theorem pw_1126 : u_lay RX2 TX2 0 ∈ sm_all := List.mem_filter.mpr ⟨List.mem_append_right _ (show _ ∈ tables_1 from (List.mem_append_right _ (List.mem_append_left _ (List.mem_of_getElem? (i := 112) rfl)))), rfl⟩
theorem pw_1127 : u_lay RX2 TX2 1 ∈ sm_all := List.mem_filter.mpr ⟨List.mem_append_right _ (show _ ∈ tables_1 from (List.mem_append_right _ (List.mem_append_left _ (List.mem_of_getElem? (i := 114) rfl)))), rfl⟩
theorem pw_1128 : u_lay RX2 TX2 2 ∈ sm_all := List.mem_filter.mpr ⟨List.mem_append_right _ (show _ ∈ tables_1 from (List.mem_append_right _ (List.mem_append_left _ (List.mem_of_getElem? (i := 116) rfl)))), rfl⟩
theorem pw_1129 : u_lay RX2 TX2 3 ∈ sm_all := List.mem_filter.mpr ⟨List.mem_append_right _ (show _ ∈ tables_1 from (List.mem_append_right _ (List.mem_append_left _ (List.mem_of_getElem? (i := 118) rfl)))), rfl⟩
theorem pw_1130 : u_lay RX2 TX2 4 ∈ sm_all := List.mem_filter.mpr ⟨List.mem_append_right _ (show _ ∈ tables_1 from (List.mem_append_right _ (List.mem_append_left _ (List.mem_of_getElem? (i := 120) rfl)))), rfl⟩
theorem pw_1131 : u_lay RX2 TX2 5 ∈ sm_all := List.mem_filter.mpr ⟨List.mem_append_right _ (show _ ∈ tables_1 from (List.mem_append_right _ (List.mem_append_left _ (List.mem_of_getElem? (i := 122) rfl)))), rfl⟩
theorem pw_1132 : u_lay RX2 TX2 6 ∈ sm_all := List.mem_filter.mpr ⟨List.mem_append_right _ (show _ ∈ tables_1 from (List.mem_append_right _ (List.mem_append_left _ (List.mem_of_getElem? (i := 124) rfl)))), rfl⟩
theorem pw_1133 : u_lay RX2 TX2 7 ∈ sm_all := List.mem_filter.mpr ⟨List.mem_append_right _ (show _ ∈ tables_1 from (List.mem_append_right _ (List.mem_append_left _ (List.mem_of_getElem? (i := 126) rfl)))), rfl⟩
theorem pw_1134 : u_lay RX2 TX2 8 ∈ sm_all := List.mem_filter.mpr ⟨List.mem_append_right _ (show _ ∈ tables_1 from (List.mem_append_right _ (List.mem_append_left _ (List.mem_of_getElem? (i := 128) rfl)))), rfl⟩
theorem pw_1135 : u_lay RX2 TX2 9 ∈ sm_all := List.mem_filter.mpr ⟨List.mem_append_right _ (show _ ∈ tables_1 from (List.mem_append_right _ (List.mem_append_left _ (List.mem_of_getElem? (i := 130) rfl)))), rfl⟩
theorem pw_1136 : u_lay RX2 TX2 10 ∈ sm_all := List.mem_filter.mpr ⟨List.mem_append_right _ (show _ ∈ tables_1 from (List.mem_append_right _ (List.mem_append_left _ (List.mem_of_getElem? (i := 132) rfl)))), rfl⟩
theorem pw_1137 : u_lay RX2 TX2 11 ∈ sm_all := List.mem_filter.mpr ⟨List.mem_append_right _ (show _ ∈ tables_1 from (List.mem_append_right _ (List.mem_append_left _ (List.mem_of_getElem? (i := 134) rfl)))), rfl⟩
theorem pw_1138 : u_lay RX3 TX3 0 ∈ sm_all := List.mem_filter.mpr ⟨List.mem_append_right _ (show _ ∈ tables_1 from (List.mem_append_left _ (List.mem_of_getElem? (i := 229) rfl))), rfl⟩
theorem pw_1139 : u_lay RX3 TX3 1 ∈ sm_all := List.mem_filter.mpr ⟨List.mem_append_right _ (show _ ∈ tables_1 from (List.mem_append_left _ (List.mem_of_getElem? (i := 231) rfl))), rfl⟩
theorem pw_1140 : u_lay RX3 TX3 2 ∈ sm_all := List.mem_filter.mpr ⟨List.mem_append_right _ (show _ ∈ tables_1 from (List.mem_append_left _ (List.mem_of_getElem? (i := 233) rfl))), rfl⟩
theorem pw_1141 : u_lay RX3 TX3 3 ∈ sm_all := List.mem_filter.mpr ⟨List.mem_append_right _ (show _ ∈ tables_1 from (List.mem_append_left _ (List.mem_of_getElem? (i := 235) rfl))), rfl⟩
theorem pw_1142 : u_lay RX3 TX3 4 ∈ sm_all := List.mem_filter.mpr ⟨List.mem_append_right _ (show _ ∈ tables_1 from (List.mem_append_left _ (List.mem_of_getElem? (i := 237) rfl))), rfl⟩
theorem pw_1143 : u_lay RX3 TX3 5 ∈ sm_all := List.mem_filter.mpr ⟨List.mem_append_right _ (show _ ∈ tables_1 from (List.mem_append_left _ (List.mem_of_getElem? (i := 239) rfl))), rfl⟩
theorem pw_1144 : u_lay RX3 TX3 6 ∈ sm_all := List.mem_filter.mpr ⟨List.mem_append_right _ (show _ ∈ tables_1 from (List.mem_append_right _ (List.mem_append_left _ (List.mem_of_getElem? (i := 1) rfl)))), rfl⟩
theorem pw_1145 : u_lay RX3 TX3 7 ∈ sm_all := List.mem_filter.mpr ⟨List.mem_append_right _ (show _ ∈ tables_1 from (List.mem_append_right _ (List.mem_append_left _ (List.mem_of_getElem? (i := 3) rfl)))), rfl⟩
theorem pw_1146 : u_lay RX3 TX3 8 ∈ sm_all := List.mem_filter.mpr ⟨List.mem_append_right _ (show _ ∈ tables_1 from (List.mem_append_right _ (List.mem_append_left _ (List.mem_of_getElem? (i := 5) rfl)))), rfl⟩
theorem pw_1147 : u_lay RX3 TX3 9 ∈ sm_all := List.mem_filter.mpr ⟨List.mem_append_right _ (show _ ∈ tables_1 from (List.mem_append_right _ (List.mem_append_left _ (List.mem_of_getElem? (i := 7) rfl)))), rfl⟩
theorem pw_1148 : u_lay RX3 TX3 10 ∈ sm_all := List.mem_filter.mpr ⟨List.mem_append_right _ (show _ ∈ tables_1 from (List.mem_append_right _ (List.mem_append_left _ (List.mem_of_getElem? (i := 9) rfl)))), rfl⟩
theorem pw_1149 : u_lay RX3 TX3 11 ∈ sm_all := List.mem_filter.mpr ⟨List.mem_append_right _ (show _ ∈ tables_1 from (List.mem_append_right _ (List.mem_append_left _ (List.mem_of_getElem? (i := 11) rfl)))), rfl⟩
theorem pw_1150 : u_lay RX3 TX3 12 ∈ sm_all := List.mem_filter.mpr ⟨List.mem_append_right _ (show _ ∈ tables_1 from (List.mem_append_right _ (List.mem_append_left _ (List.mem_of_getElem? (i := 13) rfl)))), rfl⟩
theorem pw_1151 : u_lay RX3 TX3 13 ∈ sm_all := List.mem_filter.mpr ⟨List.mem_append_right _ (show _ ∈ tables_1 from (List.mem_append_right _ (List.mem_append_left _ (List.mem_of_getElem? (i := 15) rfl)))), rfl⟩
theorem pw_1152 : u_lay RX4 TX4 0 ∈ sm_all := List.mem_filter.mpr ⟨List.mem_append_right _ (show _ ∈ tables_1 from (List.mem_append_left _ (List.mem_of_getElem? (i := 135) rfl))), rfl⟩
theorem pw_1153 : u_lay RX4 TX4 1 ∈ sm_all := List.mem_filter.mpr ⟨List.mem_append_right _ (show _ ∈ tables_1 from (List.mem_append_left _ (List.mem_of_getElem? (i := 137) rfl))), rfl⟩
theorem pw_1154 : u_lay RX4 TX4 2 ∈ sm_all := List.mem_filter.mpr ⟨List.mem_append_right _ (show _ ∈ tables_1 from (List.mem_append_left _ (List.mem_of_getElem? (i := 139) rfl))), rfl⟩
theorem pw_1155 : u_lay RX4 TX4 3 ∈ sm_all := List.mem_filter.mpr ⟨List.mem_append_right _ (show _ ∈ tables_1 from (List.mem_append_left _ (List.mem_of_getElem? (i := 141) rfl))), rfl⟩
theorem pw_1156 : u_lay RX4 TX4 4 ∈ sm_all := List.mem_filter.mpr ⟨List.mem_append_right _ (show _ ∈ tables_1 from (List.mem_append_left _ (List.mem_of_getElem? (i := 143) rfl))), rfl⟩
theorem pw_1157 : u_lay RX4 TX4 5 ∈ sm_all := List.mem_filter.mpr ⟨List.mem_append_right _ (show _ ∈ tables_1 from (List.mem_append_left _ (List.mem_of_getElem? (i := 145) rfl))), rfl⟩
theorem pw_1158 : u_lay RX4 TX4 6 ∈ sm_all := List.mem_filter.mpr ⟨List.mem_append_right _ (show _ ∈ tables_1 from (List.mem_append_left _ (List.mem_of_getElem? (i := 147) rfl))), rfl⟩
theorem pw_1159 : u_lay RX4 TX4 7 ∈ sm_all := List.mem_filter.mpr ⟨List.mem_append_right _ (show _ ∈ tables_1 from (List.mem_append_left _ (List.mem_of_getElem? (i := 149) rfl))), rfl⟩
theorem pw_1160 : u_lay RX4 TX4 8 ∈ sm_all := List.mem_filter.mpr ⟨List.mem_append_right _ (show _ ∈ tables_1 from (List.mem_append_left _ (List.mem_of_getElem? (i := 151) rfl))), rfl⟩
theorem pw_1161 : u_lay RX4 TX4 9 ∈ sm_all := List.mem_filter.mpr ⟨List.mem_append_right _ (show _ ∈ tables_1 from (List.mem_append_left _ (List.mem_of_getElem? (i := 153) rfl))), rfl⟩
theorem pw_1162 : u_lay RX4 TX4 10 ∈ sm_all := List.mem_filter.mpr ⟨List.mem_append_right _ (show _ ∈ tables_1 from (List.mem_append_left _ (List.mem_of_getElem? (i := 155) rfl))), rfl⟩
theorem pw_1163 : u_lay RX4 TX4 11 ∈ sm_all := List.mem_filter.mpr ⟨List.mem_append_right _ (show _ ∈ tables_1 from (List.mem_append_left _ (List.mem_of_getElem? (i := 157) rfl))), rfl⟩
theorem pw_1164 : u_lay RX4 TX4 12 ∈ sm_all := List.mem_filter.mpr ⟨List.mem_append_right _ (show _ ∈ tables_1 from (List.mem_append_left _ (List.mem_of_getElem? (i := 159) rfl))), rfl⟩
theorem pw_1165 : u_lay RX4 TX4 13 ∈ sm_all := List.mem_filter.mpr ⟨List.mem_append_right _ (show _ ∈ tables_1 from (List.mem_append_left _ (List.mem_of_getElem? (i := 161) rfl))), rfl⟩
theorem pw_1166 : u_lay RX4 TX4 14 ∈ sm_all := List.mem_filter.mpr ⟨List.mem_append_right _ (show _ ∈ tables_1 from (List.mem_append_left _ (List.mem_of_getElem? (i := 163) rfl))), rfl⟩
theorem pw_1167 : u_lay RX5 TX5 0 ∈ sm_all := List.mem_filter.mpr ⟨List.mem_append_right _ (show _ ∈ tables_1 from (List.mem_append_right _ (List.mem_append_left _ (List.mem_of_getElem? (i := 148) rfl)))), rfl⟩
theorem pw_1168 : u_lay RX5 TX5 1 ∈ sm_all := List.mem_filter.mpr ⟨List.mem_append_right _ (show _ ∈ tables_1 from (List.mem_append_right _ (List.mem_append_left _ (List.mem_of_getElem? (i := 150) rfl)))), rfl⟩
theorem pw_1169 : u_lay RX5 TX5 2 ∈ sm_all := List.mem_filter.mpr ⟨List.mem_append_right _ (show _ ∈ tables_1 from (List.mem_append_right _ (List.mem_append_left _ (List.mem_of_getElem? (i := 152) rfl)))), rfl⟩
theorem pw_1170 : u_lay RX5 TX5 3 ∈ sm_all := List.mem_filter.mpr ⟨List.mem_append_right _ (show _ ∈ tables_1 from (List.mem_append_right _ (List.mem_append_left _ (List.mem_of_getElem? (i := 154) rfl)))), rfl⟩
theorem pw_1171 : u_lay RX6 TX6 0 ∈ sm_all := List.mem_filter.mpr ⟨List.mem_append_right _ (show _ ∈ tables_1 from (List.mem_append_right _ (List.mem_append_left _ (List.mem_of_getElem? (i := 172) rfl)))), rfl⟩
theorem pw_1172 : u_lay RX6 TX6 1 ∈ sm_all := List.mem_filter.mpr ⟨List.mem_append_right _ (show _ ∈ tables_1 from (List.mem_append_right _ (List.mem_append_left _ (List.mem_of_getElem? (i := 174) rfl)))), rfl⟩
theorem pw_1173 : u_lay RX6 TX6 2 ∈ sm_all := List.mem_filter.mpr ⟨List.mem_append_right _ (show _ ∈ tables_1 from (List.mem_append_right _ (List.mem_append_left _ (List.mem_of_getElem? (i := 176) rfl)))), rfl⟩
theorem pw_1174 : u_lay RX6 TX6 3 ∈ sm_all := List.mem_filter.mpr ⟨List.mem_append_right _ (show _ ∈ tables_1 from (List.mem_append_right _ (List.mem_append_left _ (List.mem_of_getElem? (i := 178) rfl)))), rfl⟩
theorem pw_1175 : u_lay RX6 TX6 4 ∈ sm_all := List.mem_filter.mpr ⟨List.mem_append_right _ (show _ ∈ tables_1 from (List.mem_append_right _ (List.mem_append_left _ (List.mem_of_getElem? (i := 180) rfl)))), rfl⟩
theorem pw_1176 : u_lay RX6 TX6 5 ∈ sm_all := List.mem_filter.mpr ⟨List.mem_append_right _ (show _ ∈ tables_1 from (List.mem_append_right _ (List.mem_append_left _ (List.mem_of_getElem? (i := 182) rfl)))), rfl⟩
theorem pw_1177 : u_lay RX6 TX6 6 ∈ sm_all := List.mem_filter.mpr ⟨List.mem_append_right _ (show _ ∈ tables_1 from (List.mem_append_right _ (List.mem_append_left _ (List.mem_of_getElem? (i := 184) rfl)))), rfl⟩
theorem pw_1178 : u_lay RX7 TX7 0 ∈ sm_all := List.mem_filter.mpr ⟨List.mem_append_right _ (show _ ∈ tables_1 from (List.mem_append_right _ (List.mem_append_left _ (List.mem_of_getElem? (i := 212) rfl)))), rfl⟩
theorem pw_1179 : u_lay RX7 TX7 1 ∈ sm_all := List.mem_filter.mpr ⟨List.mem_append_right _ (show _ ∈ tables_1 from (List.mem_append_right _ (List.mem_append_left _ (List.mem_of_getElem? (i := 214) rfl)))), rfl⟩
theorem pw_1180 : u_lay RX7 TX7 2 ∈ sm_all := List.mem_filter.mpr ⟨List.mem_append_right _ (show _ ∈ tables_1 from (List.mem_append_right _ (List.mem_append_left _ (List.mem_of_getElem? (i := 216) rfl)))), rfl⟩
theorem pw_1181 : u_lay RX7 TX7 3 ∈ sm_all := List.mem_filter.mpr ⟨List.mem_append_right _ (show _ ∈ tables_1 from (List.mem_append_right _ (List.mem_append_left _ (List.mem_of_getElem? (i := 218) rfl)))), rfl⟩
theorem pw_1182 : u_lay RX7 TX7 4 ∈ sm_all := List.mem_filter.mpr ⟨List.mem_append_right _ (show _ ∈ tables_1 from (List.mem_append_right _ (List.mem_append_left _ (List.mem_of_getElem? (i := 220) rfl)))), rfl⟩
theorem pw_1183 : u_lay RX7 TX7 5 ∈ sm_all := List.mem_filter.mpr ⟨List.mem_append_right _ (show _ ∈ tables_1 from (List.mem_append_right _ (List.mem_append_left _ (List.mem_of_getElem? (i := 222) rfl)))), rfl⟩
theorem pw_1184 : u_lay RX7 TX7 6 ∈ sm_all := List.mem_filter.mpr ⟨List.mem_append_right _ (show _ ∈ tables_1 from (List.mem_append_right _ (List.mem_append_left _ (List.mem_of_getElem? (i := 224) rfl)))), rfl⟩
theorem pw_1185 : u_lay RX7 TX7 7 ∈ sm_all := List.mem_filter.mpr ⟨List.mem_append_right _ (show _ ∈ tables_1 from (List.mem_append_right _ (List.mem_append_left _ (List.mem_of_getElem? (i := 226) rfl)))), rfl⟩
theorem pw_1186 : u_lay RX7 TX7 8 ∈ sm_all := List.mem_filter.mpr ⟨List.mem_append_right _ (show _ ∈ tables_1 from (List.mem_append_right _ (List.mem_append_left _ (List.mem_of_getElem? (i := 228) rfl)))), rfl⟩
theorem pw_1187 : u_lay RX7 TX7 9 ∈ sm_all := List.mem_filter.mpr ⟨List.mem_append_right _ (show _ ∈ tables_1 from (List.mem_append_right _ (List.mem_append_left _ (List.mem_of_getElem? (i := 230) rfl)))), rfl⟩
theorem pw_1188 : u_lay RX7 TX7 10 ∈ sm_all := List.mem_filter.mpr ⟨List.mem_append_right _ (show _ ∈ tables_1 from (List.mem_append_right _ (List.mem_append_left _ (List.mem_of_getElem? (i := 232) rfl)))), rfl⟩
theorem pw_1189 : u_lay RX7 TX7 11 ∈ sm_all := List.mem_filter.mpr ⟨List.mem_append_right _ (show _ ∈ tables_1 from (List.mem_append_right _ (List.mem_append_left _ (List.mem_of_getElem? (i := 234) rfl)))), rfl⟩
theorem pw_1190 : u_lay RX7 TX7 12 ∈ sm_all := List.mem_filter.mpr ⟨List.mem_append_right _ (show _ ∈ tables_1 from (List.mem_append_right _ (List.mem_append_left _ (List.mem_of_getElem? (i := 236) rfl)))), rfl⟩
theorem pw_1191 : u_lay RX7 TX7 13 ∈ sm_all := List.mem_filter.mpr ⟨List.mem_append_right _ (show _ ∈ tables_1 from (List.mem_append_right _ (List.mem_append_left _ (List.mem_of_getElem? (i := 238) rfl)))), rfl⟩
theorem pw_1192 : u_lay RX7 TX7 14 ∈ sm_all := List.mem_filter.mpr ⟨List.mem_append_right _ (show _ ∈ tables_1 from (List.mem_append_right _ (List.mem_append_right _ (List.mem_append_left _ (List.mem_of_getElem? (i := 0) rfl))))), rfl⟩
theorem pw_1193 : u_lay RX7 TX7 15 ∈ sm_all := List.mem_filter.mpr ⟨List.mem_append_right _ (show _ ∈ tables_1 from (List.mem_append_right _ (List.mem_append_right _ (List.mem_append_left _ (List.mem_of_getElem? (i := 2) rfl))))), rfl⟩
theorem pw_1194 : u_lay RX7 TX7 16 ∈ sm_all := List.mem_filter.mpr ⟨List.mem_append_right _ (show _ ∈ tables_1 from (List.mem_append_right _ (List.mem_append_right _ (List.mem_append_left _ (List.mem_of_getElem? (i := 4) rfl))))), rfl⟩
theorem pw_1195 : u_lay RX8 TX8 0 ∈ sm_all := List.mem_filter.mpr ⟨List.mem_append_right _ (show _ ∈ tables_1 from (List.mem_append_right _ (List.mem_append_right _ (List.mem_append_right _ (List.mem_append_right _ (List.mem_append_left _ (List.mem_of_getElem? (i := 173) rfl))))))), rfl⟩
theorem pw_1196 : u_lay RX8 TX8 1 ∈ sm_all := List.mem_filter.mpr ⟨List.mem_append_right _ (show _ ∈ tables_1 from (List.mem_append_right _ (List.mem_append_right _ (List.mem_append_right _ (List.mem_append_right _ (List.mem_append_left _ (List.mem_of_getElem? (i := 175) rfl))))))), rfl⟩
theorem pw_1197 : u_lay RX8 TX8 2 ∈ sm_all := List.mem_filter.mpr ⟨List.mem_append_right _ (show _ ∈ tables_1 from (List.mem_append_right _ (List.mem_append_right _ (List.mem_append_right _ (List.mem_append_right _ (List.mem_append_left _ (List.mem_of_getElem? (i := 177) rfl))))))), rfl⟩
theorem pw_1198 : u_lay RX8 TX8 3 ∈ sm_all := List.mem_filter.mpr ⟨List.mem_append_right _ (show _ ∈ tables_1 from (List.mem_append_right _ (List.mem_append_right _ (List.mem_append_right _ (List.mem_append_right _ (List.mem_append_left _ (List.mem_of_getElem? (i := 179) rfl))))))), rfl⟩
theorem pw_1199 : u_lay RX8 TX8 4 ∈ sm_all := List.mem_filter.mpr ⟨List.mem_append_right _ (show _ ∈ tables_1 from (List.mem_append_right _ (List.mem_append_right _ (List.mem_append_right _ (List.mem_append_right _ (List.mem_append_left _ (List.mem_of_getElem? (i := 181) rfl))))))), rfl⟩
theorem pw_1200 : u_lay RX8 TX8 5 ∈ sm_all := List.mem_filter.mpr ⟨List.mem_append_right _ (show _ ∈ tables_1 from (List.mem_append_right _ (List.mem_append_right _ (List.mem_append_right _ (List.mem_append_right _ (List.mem_append_left _ (List.mem_of_getElem? (i := 183) rfl))))))), rfl⟩
theorem pw_1201 : u_lay RX8 TX8 6 ∈ sm_all := List.mem_filter.mpr ⟨List.mem_append_right _ (show _ ∈ tables_1 from (List.mem_append_right _ (List.mem_append_right _ (List.mem_append_right _ (List.mem_append_right _ (List.mem_append_left _ (List.mem_of_getElem? (i := 185) rfl))))))), rfl⟩
theorem pw_1202 : u_lay RX8 TX8 7 ∈ sm_all := List.mem_filter.mpr ⟨List.mem_append_right _ (show _ ∈ tables_1 from (List.mem_append_right _ (List.mem_append_right _ (List.mem_append_right _ (List.mem_append_right _ (List.mem_append_left _ (List.mem_of_getElem? (i := 187) rfl))))))), rfl⟩
theorem pw_1203 : u_lay RX8 TX8 8 ∈ sm_all := List.mem_filter.mpr ⟨List.mem_append_right _ (show _ ∈ tables_1 from (List.mem_append_right _ (List.mem_append_right _ (List.mem_append_right _ (List.mem_append_right _ (List.mem_append_left _ (List.mem_of_getElem? (i := 189) rfl))))))), rfl⟩
theorem pw_1204 : u_lay RX8 TX8 9 ∈ sm_all := List.mem_filter.mpr ⟨List.mem_append_right _ (show _ ∈ tables_1 from (List.mem_append_right _ (List.mem_append_right _ (List.mem_append_right _ (List.mem_append_right _ (List.mem_append_left _ (List.mem_of_getElem? (i := 191) rfl))))))), rfl⟩
theorem pw_1205 : u_lay RX8 TX8 10 ∈ sm_all := List.mem_filter.mpr ⟨List.mem_append_right _ (show _ ∈ tables_1 from (List.mem_append_right _ (List.mem_append_right _ (List.mem_append_right _ (List.mem_append_right _ (List.mem_append_left _ (List.mem_of_getElem? (i := 193) rfl))))))), rfl⟩
theorem pw_1206 : u_lay RX8 TX8 11 ∈ sm_all := List.mem_filter.mpr ⟨List.mem_append_right _ (show _ ∈ tables_1 from (List.mem_append_right _ (List.mem_append_right _ (List.mem_append_right _ (List.mem_append_right _ (List.mem_append_left _ (List.mem_of_getElem? (i := 195) rfl))))))), rfl⟩
theorem pw_1207 : u_lay RX8 TX8 12 ∈ sm_all := List.mem_filter.mpr ⟨List.mem_append_right _ (show _ ∈ tables_1 from (List.mem_append_right _ (List.mem_append_right _ (List.mem_append_right _ (List.mem_append_right _ (List.mem_append_left _ (List.mem_of_getElem? (i := 197) rfl))))))), rfl⟩
theorem pw_1208 : u_lay RX8 TX8 13 ∈ sm_all := List.mem_filter.mpr ⟨List.mem_append_right _ (show _ ∈ tables_1 from (List.mem_append_right _ (List.mem_append_right _ (List.mem_append_right _ (List.mem_append_right _ (List.mem_append_left _ (List.mem_of_getElem? (i := 199) rfl))))))), rfl⟩
theorem pw_1209 : u_lay RX8 TX8 14 ∈ sm_all := List.mem_filter.mpr ⟨List.mem_append_right _ (show _ ∈ tables_1 from (List.mem_append_right _ (List.mem_append_right _ (List.mem_append_right _ (List.mem_append_right _ (List.mem_append_left _ (List.mem_of_getElem? (i := 201) rfl))))))), rfl⟩
theorem pw_1210 : u_lay RX8 TX8 15 ∈ sm_all := List.mem_filter.mpr ⟨List.mem_append_right _ (show _ ∈ tables_1 from (List.mem_append_right _ (List.mem_append_right _ (List.mem_append_right _ (List.mem_append_right _ (List.mem_append_left _ (List.mem_of_getElem? (i := 203) rfl))))))), rfl⟩
theorem pw_1211 : u_lay RX8 TX8 16 ∈ sm_all := List.mem_filter.mpr ⟨List.mem_append_right _ (show _ ∈ tables_1 from (List.mem_append_right _ (List.mem_append_right _ (List.mem_append_right _ (List.mem_append_right _ (List.mem_append_left _ (List.mem_of_getElem? (i := 205) rfl))))))), rfl⟩
theorem pw_1212 : u_lay RX8 TX8 17 ∈ sm_all := List.mem_filter.mpr ⟨List.mem_append_right _ (show _ ∈ tables_1 from (List.mem_append_right _ (List.mem_append_right _ (List.mem_append_right _ (List.mem_append_right _ (List.mem_append_left _ (List.mem_of_getElem? (i := 207) rfl))))))), rfl⟩
theorem pw_1213 : u_lay RX8 TX8 18 ∈ sm_all := List.mem_filter.mpr ⟨List.mem_append_right _ (show _ ∈ tables_1 from (List.mem_append_right _ (List.mem_append_right _ (List.mem_append_right _ (List.mem_append_right _ (List.mem_append_left _ (List.mem_of_getElem? (i := 209) rfl))))))), rfl⟩
theorem pw_1214 : u_lay RX8 TX8 19 ∈ sm_all := List.mem_filter.mpr ⟨List.mem_append_right _ (show _ ∈ tables_1 from (List.mem_append_right _ (List.mem_append_right _ (List.mem_append_right _ (List.mem_append_right _ (List.mem_append_left _ (List.mem_of_getElem? (i := 211) rfl))))))), rfl⟩
theorem pw_1215 : u_lay RX8 TX8 20 ∈ sm_all := List.mem_filter.mpr ⟨List.mem_append_right _ (show _ ∈ tables_1 from (List.mem_append_right _ (List.mem_append_right _ (List.mem_append_right _ (List.mem_append_right _ (List.mem_append_left _ (List.mem_of_getElem? (i := 213) rfl))))))), rfl⟩
theorem pw_1216 : u_lay RX8 TX8 21 ∈ sm_all := List.mem_filter.mpr ⟨List.mem_append_right _ (show _ ∈ tables_1 from (List.mem_append_right _ (List.mem_append_right _ (List.mem_append_right _ (List.mem_append_right _ (List.mem_append_left _ (List.mem_of_getElem? (i := 215) rfl))))))), rfl⟩
theorem pw_1217 : u_lay RX8 TX8 22 ∈ sm_all := List.mem_filter.mpr ⟨List.mem_append_right _ (show _ ∈ tables_1 from (List.mem_append_right _ (List.mem_append_right _ (List.mem_append_right _ (List.mem_append_right _ (List.mem_append_left _ (List.mem_of_getElem? (i := 217) rfl))))))), rfl⟩
theorem pw_1218 : u_lay RX8 TX8 23 ∈ sm_all := List.mem_filter.mpr ⟨List.mem_append_right _ (show _ ∈ tables_1 from (List.mem_append_right _ (List.mem_append_right _ (List.mem_append_right _ (List.mem_append_right _ (List.mem_append_left _ (List.mem_of_getElem? (i := 219) rfl))))))), rfl⟩
theorem pw_1219 : u_lay RX8 TX8 24 ∈ sm_all := List.mem_filter.mpr ⟨List.mem_append_right _ (show _ ∈ tables_1 from (List.mem_append_right _ (List.mem_append_right _ (List.mem_append_right _ (List.mem_append_right _ (List.mem_append_left _ (List.mem_of_getElem? (i := 221) rfl))))))), rfl⟩
theorem pw_1220 : u_lay RX8 TX8 25 ∈ sm_all := List.mem_filter.mpr ⟨List.mem_append_right _ (show _ ∈ tables_1 from (List.mem_append_right _ (List.mem_append_right _ (List.mem_append_right _ (List.mem_append_right _ (List.mem_append_left _ (List.mem_of_getElem? (i := 223) rfl))))))), rfl⟩
theorem pw_1221 : u_lay RX8 TX8 26 ∈ sm_all := List.mem_filter.mpr ⟨List.mem_append_right _ (show _ ∈ tables_1 from (List.mem_append_right _ (List.mem_append_right _ (List.mem_append_right _ (List.mem_append_right _ (List.mem_append_left _ (List.mem_of_getElem? (i := 225) rfl))))))), rfl⟩
theorem pw_1222 : u_lay RX8 TX8 27 ∈ sm_all := List.mem_filter.mpr ⟨List.mem_append_right _ (show _ ∈ tables_1 from (List.mem_append_right _ (List.mem_append_right _ (List.mem_append_right _ (List.mem_append_right _ (List.mem_append_left _ (List.mem_of_getElem? (i := 227) rfl))))))), rfl⟩
theorem pw_1223 : u_lay RX8 TX8 28 ∈ sm_all := List.mem_filter.mpr ⟨List.mem_append_right _ (show _ ∈ tables_1 from (List.mem_append_right _ (List.mem_append_right _ (List.mem_append_right _ (List.mem_append_right _ (List.mem_append_left _ (List.mem_of_getElem? (i := 229) rfl))))))), rfl⟩
theorem pw_1224 : u_lay RX8 TX8 29 ∈ sm_all := List.mem_filter.mpr ⟨List.mem_append_right _ (show _ ∈ tables_1 from (List.mem_append_right _ (List.mem_append_right _ (List.mem_append_right _ (List.mem_append_right _ (List.mem_append_left _ (List.mem_of_getElem? (i := 231) rfl))))))), rfl⟩
theorem pw_1225 : u_lay RX8 TX8 30 ∈ sm_all := List.mem_filter.mpr ⟨List.mem_append_right _ (show _ ∈ tables_1 from (List.mem_append_right _ (List.mem_append_right _ (List.mem_append_right _ (List.mem_append_right _ (List.mem_append_left _ (List.mem_of_getElem? (i := 233) rfl))))))), rfl⟩
theorem pw_1226 : u_lay RX8 TX8 31 ∈ sm_all := List.mem_filter.mpr ⟨List.mem_append_right _ (show _ ∈ tables_1 from (List.mem_append_right _ (List.mem_append_right _ (List.mem_append_right _ (List.mem_append_right _ (List.mem_append_left _ (List.mem_of_getElem? (i := 235) rfl))))))), rfl⟩
theorem pw_1227 : u_lay RX8 TX8 32 ∈ sm_all := List.mem_filter.mpr ⟨List.mem_append_right _ (show _ ∈ tables_1 from (List.mem_append_right _ (List.mem_append_right _ (List.mem_append_right _ (List.mem_append_right _ (List.mem_append_left _ (List.mem_of_getElem? (i := 237) rfl))))))), rfl⟩
theorem pw_1228 : u_lay RX8 TX8 33 ∈ sm_all := List.mem_filter.mpr ⟨List.mem_append_right _ (show _ ∈ tables_1 from (List.mem_append_right _ (List.mem_append_right _ (List.mem_append_right _ (List.mem_append_right _ (List.mem_append_left _ (List.mem_of_getElem? (i := 239) rfl))))))), rfl⟩
theorem pw_1229 : u_lay RX8 TX8 34 ∈ sm_all := List.mem_filter.mpr ⟨List.mem_append_right _ (show _ ∈ tables_1 from (List.mem_append_right _ (List.mem_append_right _ (List.mem_append_right _ (List.mem_append_right _ (List.mem_append_right _ (List.mem_append_left _ (List.mem_of_getElem? (i := 1) rfl)))))))), rfl⟩
theorem pw_1230 : u_lay RX8 TX8 35 ∈ sm_all := List.mem_filter.mpr ⟨List.mem_append_right _ (show _ ∈ tables_1 from (List.mem_append_right _ (List.mem_append_right _ (List.mem_append_right _ (List.mem_append_right _ (List.mem_append_right _ (List.mem_append_left _ (List.mem_of_getElem? (i := 3) rfl)))))))), rfl⟩
theorem pw_1231 : u_lay RX8 TX8 36 ∈ sm_all := List.mem_filter.mpr ⟨List.mem_append_right _ (show _ ∈ tables_1 from (List.mem_append_right _ (List.mem_append_right _ (List.mem_append_right _ (List.mem_append_right _ (List.mem_append_right _ (List.mem_append_left _ (List.mem_of_getElem? (i := 5) rfl)))))))), rfl⟩
theorem pw_1232 : u_lay RX8 TX8 37 ∈ sm_all := List.mem_filter.mpr ⟨List.mem_append_right _ (show _ ∈ tables_1 from (List.mem_append_right _ (List.mem_append_right _ (List.mem_append_right _ (List.mem_append_right _ (List.mem_append_right _ (List.mem_append_left _ (List.mem_of_getElem? (i := 7) rfl)))))))), rfl⟩
theorem pw_1233 : u_lay RX8 TX8 38 ∈ sm_all := List.mem_filter.mpr ⟨List.mem_append_right _ (show _ ∈ tables_1 from (List.mem_append_right _ (List.mem_append_right _ (List.mem_append_right _ (List.mem_append_right _ (List.mem_append_right _ (List.mem_append_left _ (List.mem_of_getElem? (i := 9) rfl)))))))), rfl⟩
theorem pw_1234 : u_lay RX8 TX8 39 ∈ sm_all := List.mem_filter.mpr ⟨List.mem_append_right _ (show _ ∈ tables_1 from (List.mem_append_right _ (List.mem_append_right _ (List.mem_append_right _ (List.mem_append_right _ (List.mem_append_right _ (List.mem_append_left _ (List.mem_of_getElem? (i := 11) rfl)))))))), rfl⟩
theorem pw_1235 : u_lay RX8 TX8 40 ∈ sm_all := List.mem_filter.mpr ⟨List.mem_append_right _ (show _ ∈ tables_1 from (List.mem_append_right _ (List.mem_append_right _ (List.mem_append_right _ (List.mem_append_right _ (List.mem_append_right _ (List.mem_append_left _ (List.mem_of_getElem? (i := 13) rfl)))))))), rfl⟩
theorem pw_1236 : u_lay RX8 TX8 41 ∈ sm_all := List.mem_filter.mpr ⟨List.mem_append_right _ (show _ ∈ tables_1 from (List.mem_append_right _ (List.mem_append_right _ (List.mem_append_right _ (List.mem_append_right _ (List.mem_append_right _ (List.mem_append_left _ (List.mem_of_getElem? (i := 15) rfl)))))))), rfl⟩
theorem pw_1237 : u_lay RX8 TX8 42 ∈ sm_all := List.mem_filter.mpr ⟨List.mem_append_right _ (show _ ∈ tables_1 from (List.mem_append_right _ (List.mem_append_right _ (List.mem_append_right _ (List.mem_append_right _ (List.mem_append_right _ (List.mem_append_left _ (List.mem_of_getElem? (i := 17) rfl)))))))), rfl⟩
theorem pw_1238 : u_lay RX8 TX8 43 ∈ sm_all := List.mem_filter.mpr ⟨List.mem_append_right _ (show _ ∈ tables_1 from (List.mem_append_right _ (List.mem_append_right _ (List.mem_append_right _ (List.mem_append_right _ (List.mem_append_right _ (List.mem_append_left _ (List.mem_of_getElem? (i := 19) rfl)))))))), rfl⟩
theorem pw_1239 : u_lay RX8 TX8 44 ∈ sm_all := List.mem_filter.mpr ⟨List.mem_append_right _ (show _ ∈ tables_1 from (List.mem_append_right _ (List.mem_append_right _ (List.mem_append_right _ (List.mem_append_right _ (List.mem_append_right _ (List.mem_append_left _ (List.mem_of_getElem? (i := 21) rfl)))))))), rfl⟩
theorem pw_1240 : u_lay RX8 TX8 45 ∈ sm_all := List.mem_filter.mpr ⟨List.mem_append_right _ (show _ ∈ tables_1 from (List.mem_append_right _ (List.mem_append_right _ (List.mem_append_right _ (List.mem_append_right _ (List.mem_append_right _ (List.mem_append_left _ (List.mem_of_getElem? (i := 23) rfl)))))))), rfl⟩
theorem pw_1241 : u_lay RX8 TX8 46 ∈ sm_all := List.mem_filter.mpr ⟨List.mem_append_right _ (show _ ∈ tables_1 from (List.mem_append_right _ (List.mem_append_right _ (List.mem_append_right _ (List.mem_append_right _ (List.mem_append_right _ (List.mem_append_left _ (List.mem_of_getElem? (i := 25) rfl)))))))), rfl⟩
theorem pw_1242 : u_lay RX8 TX8 47 ∈ sm_all := List.mem_filter.mpr ⟨List.mem_append_right _ (show _ ∈ tables_1 from (List.mem_append_right _ (List.mem_append_right _ (List.mem_append_right _ (List.mem_append_right _ (List.mem_append_right _ (List.mem_append_left _ (List.mem_of_getElem? (i := 27) rfl)))))))), rfl⟩
theorem pw_1243 : u_lay RX8 TX8 48 ∈ sm_all := List.mem_filter.mpr ⟨List.mem_append_right _ (show _ ∈ tables_1 from (List.mem_append_right _ (List.mem_append_right _ (List.mem_append_right _ (List.mem_append_right _ (List.mem_append_right _ (List.mem_append_left _ (List.mem_of_getElem? (i := 29) rfl)))))))), rfl⟩
theorem pw_1244 : u_lay RX8 TX8 49 ∈ sm_all := List.mem_filter.mpr ⟨List.mem_append_right _ (show _ ∈ tables_1 from (List.mem_append_right _ (List.mem_append_right _ (List.mem_append_right _ (List.mem_append_right _ (List.mem_append_right _ (List.mem_append_left _ (List.mem_of_getElem? (i := 31) rfl)))))))), rfl⟩
theorem pw_1245 : u_lay RX8 TX8 50 ∈ sm_all := List.mem_filter.mpr ⟨List.mem_append_right _ (show _ ∈ tables_1 from (List.mem_append_right _ (List.mem_append_right _ (List.mem_append_right _ (List.mem_append_right _ (List.mem_append_right _ (List.mem_append_left _ (List.mem_of_getElem? (i := 33) rfl)))))))), rfl⟩
theorem pw_1246 : u_lay RX8 TX8 51 ∈ sm_all := List.mem_filter.mpr ⟨List.mem_append_right _ (show _ ∈ tables_1 from (List.mem_append_right _ (List.mem_append_right _ (List.mem_append_right _ (List.mem_append_right _ (List.mem_append_right _ (List.mem_append_left _ (List.mem_of_getElem? (i := 35) rfl)))))))), rfl⟩
theorem pw_1247 : u_lay RX8 TX8 52 ∈ sm_all := List.mem_filter.mpr ⟨List.mem_append_right _ (show _ ∈ tables_1 from (List.mem_append_right _ (List.mem_append_right _ (List.mem_append_right _ (List.mem_append_right _ (List.mem_append_right _ (List.mem_append_left _ (List.mem_of_getElem? (i := 37) rfl)))))))), rfl⟩
theorem pw_1248 : u_lay RX8 TX8 53 ∈ sm_all := List.mem_filter.mpr ⟨List.mem_append_right _ (show _ ∈ tables_1 from (List.mem_append_right _ (List.mem_append_right _ (List.mem_append_right _ (List.mem_append_right _ (List.mem_append_right _ (List.mem_append_left _ (List.mem_of_getElem? (i := 39) rfl)))))))), rfl⟩
theorem pw_1249 : u_lay RX8 TX8 54 ∈ sm_all := List.mem_filter.mpr ⟨List.mem_append_right _ (show _ ∈ tables_1 from (List.mem_append_right _ (List.mem_append_right _ (List.mem_append_right _ (List.mem_append_right _ (List.mem_append_right _ (List.mem_append_left _ (List.mem_of_getElem? (i := 41) rfl)))))))), rfl⟩
theorem pw_1250 : u_lay RX8 TX8 55 ∈ sm_all := List.mem_filter.mpr ⟨List.mem_append_right _ (show _ ∈ tables_1 from (List.mem_append_right _ (List.mem_append_right _ (List.mem_append_right _ (List.mem_append_right _ (List.mem_append_right _ (List.mem_append_left _ (List.mem_of_getElem? (i := 43) rfl)))))))), rfl⟩
theorem pw_1251 : u_lay RX8 TX8 56 ∈ sm_all := List.mem_filter.mpr ⟨List.mem_append_right _ (show _ ∈ tables_1 from (List.mem_append_right _ (List.mem_append_right _ (List.mem_append_right _ (List.mem_append_right _ (List.mem_append_right _ (List.mem_append_left _ (List.mem_of_getElem? (i := 45) rfl)))))))), rfl⟩
theorem pw_1252 : u_lay RX8 TX8 57 ∈ sm_all := List.mem_filter.mpr ⟨List.mem_append_right _ (show _ ∈ tables_1 from (List.mem_append_right _ (List.mem_append_right _ (List.mem_append_right _ (List.mem_append_right _ (List.mem_append_right _ (List.mem_append_left _ (List.mem_of_getElem? (i := 47) rfl)))))))), rfl⟩
theorem pw_1253 : u_lay RX8 TX8 58 ∈ sm_all := List.mem_filter.mpr ⟨List.mem_append_right _ (show _ ∈ tables_1 from (List.mem_append_right _ (List.mem_append_right _ (List.mem_append_right _ (List.mem_append_right _ (List.mem_append_right _ (List.mem_append_left _ (List.mem_of_getElem? (i := 49) rfl)))))))), rfl⟩
theorem pw_1254 : u_lay RX8 TX8 59 ∈ sm_all := List.mem_filter.mpr ⟨List.mem_append_right _ (show _ ∈ tables_1 from (List.mem_append_right _ (List.mem_append_right _ (List.mem_append_right _ (List.mem_append_right _ (List.mem_append_right _ (List.mem_append_left _ (List.mem_of_getElem? (i := 51) rfl)))))))), rfl⟩
theorem pw_1255 : u_lay RX8 TX8 60 ∈ sm_all := List.mem_filter.mpr ⟨List.mem_append_right _ (show _ ∈ tables_1 from (List.mem_append_right _ (List.mem_append_right _ (List.mem_append_right _ (List.mem_append_right _ (List.mem_append_right _ (List.mem_append_left _ (List.mem_of_getElem? (i := 53) rfl)))))))), rfl⟩
theorem pw_1256 : u_lay RX8 TX8 61 ∈ sm_all := List.mem_filter.mpr ⟨List.mem_append_right _ (show _ ∈ tables_1 from (List.mem_append_right _ (List.mem_append_right _ (List.mem_append_right _ (List.mem_append_right _ (List.mem_append_right _ (List.mem_append_left _ (List.mem_of_getElem? (i := 55) rfl)))))))), rfl⟩
theorem pw_1257 : u_lay RX8 TX8 62 ∈ sm_all := List.mem_filter.mpr ⟨List.mem_append_right _ (show _ ∈ tables_1 from (List.mem_append_right _ (List.mem_append_right _ (List.mem_append_right _ (List.mem_append_right _ (List.mem_append_right _ (List.mem_append_left _ (List.mem_of_getElem? (i := 57) rfl)))))))), rfl⟩
theorem pw_1258 : u_lay RX8 TX8 63 ∈ sm_all := List.mem_filter.mpr ⟨List.mem_append_right _ (show _ ∈ tables_1 from (List.mem_append_right _ (List.mem_append_right _ (List.mem_append_right _ (List.mem_append_right _ (List.mem_append_right _ (List.mem_append_left _ (List.mem_of_getElem? (i := 59) rfl)))))))), rfl⟩
theorem pw_1259 : u_lay RX8 TX8 64 ∈ sm_all := List.mem_filter.mpr ⟨List.mem_append_right _ (show _ ∈ tables_1 from (List.mem_append_right _ (List.mem_append_right _ (List.mem_append_right _ (List.mem_append_right _ (List.mem_append_right _ (List.mem_append_left _ (List.mem_of_getElem? (i := 61) rfl)))))))), rfl⟩
theorem pw_1260 : u_lay RX8 TX8 65 ∈ sm_all := List.mem_filter.mpr ⟨List.mem_append_right _ (show _ ∈ tables_1 from (List.mem_append_right _ (List.mem_append_right _ (List.mem_append_right _ (List.mem_append_right _ (List.mem_append_right _ (List.mem_append_left _ (List.mem_of_getElem? (i := 63) rfl)))))))), rfl⟩
theorem pw_1261 : u_lay RX8 TX8 66 ∈ sm_all := List.mem_filter.mpr ⟨List.mem_append_right _ (show _ ∈ tables_1 from (List.mem_append_right _ (List.mem_append_right _ (List.mem_append_right _ (List.mem_append_right _ (List.mem_append_right _ (List.mem_append_left _ (List.mem_of_getElem? (i := 65) rfl)))))))), rfl⟩
theorem pw_1262 : u_lay RX8 TX8 67 ∈ sm_all := List.mem_filter.mpr ⟨List.mem_append_right _ (show _ ∈ tables_1 from (List.mem_append_right _ (List.mem_append_right _ (List.mem_append_right _ (List.mem_append_right _ (List.mem_append_right _ (List.mem_append_left _ (List.mem_of_getElem? (i := 67) rfl)))))))), rfl⟩
theorem pw_1263 : u_lay RX8 TX8 68 ∈ sm_all := List.mem_filter.mpr ⟨List.mem_append_right _ (show _ ∈ tables_1 from (List.mem_append_right _ (List.mem_append_right _ (List.mem_append_right _ (List.mem_append_right _ (List.mem_append_right _ (List.mem_append_left _ (List.mem_of_getElem? (i := 69) rfl)))))))), rfl⟩
theorem pw_1264 : u_lay RX8 TX8 69 ∈ sm_all := List.mem_filter.mpr ⟨List.mem_append_right _ (show _ ∈ tables_1 from (List.mem_append_right _ (List.mem_append_right _ (List.mem_append_right _ (List.mem_append_right _ (List.mem_append_right _ (List.mem_append_left _ (List.mem_of_getElem? (i := 71) rfl)))))))), rfl⟩
theorem pw_1265 : u_lay RX8 TX8 70 ∈ sm_all := List.mem_filter.mpr ⟨List.mem_append_right _ (show _ ∈ tables_1 from (List.mem_append_right _ (List.mem_append_right _ (List.mem_append_right _ (List.mem_append_right _ (List.mem_append_right _ (List.mem_append_left _ (List.mem_of_getElem? (i := 73) rfl)))))))), rfl⟩
theorem pw_1266 : u_lay RX8 TX8 71 ∈ sm_all := List.mem_filter.mpr ⟨List.mem_append_right _ (show _ ∈ tables_1 from (List.mem_append_right _ (List.mem_append_right _ (List.mem_append_right _ (List.mem_append_right _ (List.mem_append_right _ (List.mem_append_left _ (List.mem_of_getElem? (i := 75) rfl)))))))), rfl⟩
theorem pw_1267 : u_lay RX8 TX8 72 ∈ sm_all := List.mem_filter.mpr ⟨List.mem_append_right _ (show _ ∈ tables_1 from (List.mem_append_right _ (List.mem_append_right _ (List.mem_append_right _ (List.mem_append_right _ (List.mem_append_right _ (List.mem_append_left _ (List.mem_of_getElem? (i := 77) rfl)))))))), rfl⟩
theorem pw_1268 : u_lay RX8 TX8 73 ∈ sm_all := List.mem_filter.mpr ⟨List.mem_append_right _ (show _ ∈ tables_1 from (List.mem_append_right _ (List.mem_append_right _ (List.mem_append_right _ (List.mem_append_right _ (List.mem_append_right _ (List.mem_append_left _ (List.mem_of_getElem? (i := 79) rfl)))))))), rfl⟩
theorem pw_1269 : u_lay RX8 TX8 74 ∈ sm_all := List.mem_filter.mpr ⟨List.mem_append_right _ (show _ ∈ tables_1 from (List.mem_append_right _ (List.mem_append_right _ (List.mem_append_right _ (List.mem_append_right _ (List.mem_append_right _ (List.mem_append_left _ (List.mem_of_getElem? (i := 81) rfl)))))))), rfl⟩
theorem pw_1270 : u_lay RX8 TX8 75 ∈ sm_all := List.mem_filter.mpr ⟨List.mem_append_right _ (show _ ∈ tables_1 from (List.mem_append_right _ (List.mem_append_right _ (List.mem_append_right _ (List.mem_append_right _ (List.mem_append_right _ (List.mem_append_left _ (List.mem_of_getElem? (i := 83) rfl)))))))), rfl⟩
theorem pw_1271 : u_lay RX8 TX8 76 ∈ sm_all := List.mem_filter.mpr ⟨List.mem_append_right _ (show _ ∈ tables_1 from (List.mem_append_right _ (List.mem_append_right _ (List.mem_append_right _ (List.mem_append_right _ (List.mem_append_right _ (List.mem_append_left _ (List.mem_of_getElem? (i := 85) rfl)))))))), rfl⟩
theorem pw_1272 : u_lay RX8 TX8 77 ∈ sm_all := List.mem_filter.mpr ⟨List.mem_append_right _ (show _ ∈ tables_1 from (List.mem_append_right _ (List.mem_append_right _ (List.mem_append_right _ (List.mem_append_right _ (List.mem_append_right _ (List.mem_append_left _ (List.mem_of_getElem? (i := 87) rfl)))))))), rfl⟩
theorem pw_1273 : u_lay RX8 TX8 78 ∈ sm_all := List.mem_filter.mpr ⟨List.mem_append_right _ (show _ ∈ tables_1 from (List.mem_append_right _ (List.mem_append_right _ (List.mem_append_right _ (List.mem_append_right _ (List.mem_append_right _ (List.mem_append_left _ (List.mem_of_getElem? (i := 89) rfl)))))))), rfl⟩
theorem pw_1274 : u_lay RX8 TX8 79 ∈ sm_all := List.mem_filter.mpr ⟨List.mem_append_right _ (show _ ∈ tables_1 from (List.mem_append_right _ (List.mem_append_right _ (List.mem_append_right _ (List.mem_append_right _ (List.mem_append_right _ (List.mem_append_left _ (List.mem_of_getElem? (i := 91) rfl)))))))), rfl⟩
theorem pw_1275 : u_lay RX8 TX8 80 ∈ sm_all := List.mem_filter.mpr ⟨List.mem_append_right _ (show _ ∈ tables_1 from (List.mem_append_right _ (List.mem_append_right _ (List.mem_append_right _ (List.mem_append_right _ (List.mem_append_right _ (List.mem_append_left _ (List.mem_of_getElem? (i := 93) rfl)))))))), rfl⟩
theorem pw_1276 : u_lay RX8 TX8 81 ∈ sm_all := List.mem_filter.mpr ⟨List.mem_append_right _ (show _ ∈ tables_1 from (List.mem_append_right _ (List.mem_append_right _ (List.mem_append_right _ (List.mem_append_right _ (List.mem_append_right _ (List.mem_append_left _ (List.mem_of_getElem? (i := 95) rfl)))))))), rfl⟩
theorem pw_1277 : u_lay RX8 TX8 82 ∈ sm_all := List.mem_filter.mpr ⟨List.mem_append_right _ (show _ ∈ tables_1 from (List.mem_append_right _ (List.mem_append_right _ (List.mem_append_right _ (List.mem_append_right _ (List.mem_append_right _ (List.mem_append_left _ (List.mem_of_getElem? (i := 97) rfl)))))))), rfl⟩
theorem pw_1278 : u_lay RX8 TX8 83 ∈ sm_all := List.mem_filter.mpr ⟨List.mem_append_right _ (show _ ∈ tables_1 from (List.mem_append_right _ (List.mem_append_right _ (List.mem_append_right _ (List.mem_append_right _ (List.mem_append_right _ (List.mem_append_left _ (List.mem_of_getElem? (i := 99) rfl)))))))), rfl⟩
theorem pw_1279 : Cond.instantiable RX0 7 ∈ sm_all := List.mem_filter.mpr ⟨List.mem_append_right _ (show _ ∈ tables_1 from (List.mem_append_left _ (List.mem_of_getElem? (i := 38) rfl))), rfl⟩
theorem pw_1280 : Cond.instantiable RX1 11 ∈ sm_all := List.mem_filter.mpr ⟨List.mem_append_right _ (show _ ∈ tables_1 from (List.mem_append_right _ (List.mem_append_left _ (List.mem_of_getElem? (i := 20) rfl)))), rfl⟩
theorem pw_1281 : Cond.instantiable RX2 12 ∈ sm_all := List.mem_filter.mpr ⟨List.mem_append_right _ (show _ ∈ tables_1 from (List.mem_append_right _ (List.mem_append_left _ (List.mem_of_getElem? (i := 84) rfl)))), rfl⟩
theorem pw_1282 : Cond.instantiable RX3 14 ∈ sm_all := List.mem_filter.mpr ⟨List.mem_append_right _ (show _ ∈ tables_1 from (List.mem_append_left _ (List.mem_of_getElem? (i := 167) rfl))), rfl⟩
theorem pw_1283 : Cond.instantiable RX4 15 ∈ sm_all := List.mem_filter.mpr ⟨List.mem_append_right _ (show _ ∈ tables_1 from (List.mem_append_left _ (List.mem_of_getElem? (i := 30) rfl))), rfl⟩
theorem pw_1284 : Cond.instantiable RX5 4 ∈ sm_all := List.mem_filter.mpr ⟨List.mem_append_right _ (show _ ∈ tables_1 from (List.mem_append_right _ (List.mem_append_left _ (List.mem_of_getElem? (i := 138) rfl)))), rfl⟩
theorem pw_1285 : Cond.instantiable RX6 7 ∈ sm_all := List.mem_filter.mpr ⟨List.mem_append_right _ (show _ ∈ tables_1 from (List.mem_append_right _ (List.mem_append_left _ (List.mem_of_getElem? (i := 158) rfl)))), rfl⟩
theorem pw_1286 : Cond.instantiable RX7 17 ∈ sm_all := List.mem_filter.mpr ⟨List.mem_append_right _ (show _ ∈ tables_1 from (List.mem_append_left _ (List.mem_of_getElem? (i := 22) rfl))), rfl⟩
theorem pw_1287 : Cond.instantiable RX8 84 ∈ sm_all := List.mem_filter.mpr ⟨List.mem_append_right _ (show _ ∈ tables_1 from (List.mem_append_right _ (List.mem_append_right _ (List.mem_append_right _ (List.mem_append_right _ (List.mem_append_left _ (List.mem_of_getElem? (i := 61) rfl))))))), rfl⟩
theorem ar_int : Cond.arrayClass .int ∈ sm_all := pw_1104
theorem ar_bool : Cond.arrayClass .boolean ∈ sm_all := pw_1105
theorem ar_byte : Cond.arrayClass .byte ∈ sm_all := pw_1106
theorem ar_long : Cond.arrayClass .long ∈ sm_all := pw_1107
/-! The links of the tables. -/
def ab_AllT {α : Type} (P : Nat × α → Prop) (t : Lean.RArray (Nat × α)) : Prop := Lean.RArray.rec (motive := fun _ => Prop) (fun x => P x) (fun _ _ _ l r => l ∧ r) t
theorem ab_AllT_get {α : Type} {P : Nat × α → Prop} {t : Lean.RArray (Nat × α)} (h : ab_AllT P t) {j : Nat} {v : α} (hg : ab_get t j = some v) : P (j, v) := by
  induction t with
  | leaf x =>
    rw [ab_get_leaf] at hg
    split at hg
    · next e =>
      cases hg
      subst e
      exact h
    · cases hg
  | branch p l r ihl ihr =>
    rw [ab_get_branch] at hg
    have h : ab_AllT P l ∧ ab_AllT P r := h
    split at hg
    · exact ihr h.2 hg
    · exact ihl h.1 hg
theorem pr_low_of {t : Lean.RArray (Nat × sm_M)} (h : pr_lw t = true) : ab_AllT (fun q => q.1 < 900) t := by
  induction t with
  | leaf x => exact Nat.lt_succ_of_le (Nat.ble_eq.mp h)
  | branch p l r ihl ihr =>
    have h : (pr_lw l && pr_lw r) = true := h
    have h1 := (Bool.and_eq_true _ _).mp h
    exact ⟨ihl h1.1, ihr h1.2⟩
theorem pr_low : ab_AllT (fun q => q.1 < 900) pr_pt := pr_low_of (t := pr_pt) (by decide +kernel)
/-- a link: 0 a field, 1 a final field of its own class, 2 a final field of another, 3 an int, 4 the text, 5 a long, 6 new, 7 a call, 8 a call taken as one step, 9 rows of rows -/
def lkP (own : String) (q : Nat × Nat × List Nat) : Prop := match q.2.1 with
  | 0 => ∀ ci k t, q.2.2 = [ci, k, t] → sm_fl own q.1 ci k t ∧ ∀ ini, sm_fp own ini q.1 ci k t
  | 1 => ∀ ci k t, q.2.2 = [ci, k, t] → sm_fl own q.1 ci k t ∧ sm_fp own true q.1 ci k t
  | 2 => ∀ ci k t, q.2.2 = [ci, k, t] → sm_fl own q.1 ci k t
  | 3 => ∃ x, q.2.2 = [0, x] ∧ Cond.constant own q.1 (Int32.ofNat x) ∈ sm_all
  | 4 => q.2.2 = [1, 0] ∧ own = RX3 ∧ q.1 = 58
  | 5 => ∃ x, q.2.2 = [2, x] ∧ Cond.constantLong own q.1 (Int64.ofNat x) ∈ sm_all
  | 6 => ∀ ci, q.2.2 = [ci] → ∃ (C : String) (T : u_T) (N : Nat), vwCl[ci]? = some (C, T, N) ∧ Cond.classLink own q.1 C ∈ sm_all
  | 7 => ∃ mid M, q.2.2 = [mid] ∧ mid < 900 ∧ pr_P mid = some M ∧ sm_ml own q.1 M.1 ∧ sm_mok M
  | 8 => ∃ k, q.2.2 = [k] ∧ ((k = 900 ∧ Cond.methodLink own q.1 objectInit ∈ sm_all) ∨ (k = 901 ∧ Cond.methodLink own q.1 arraycopyName ∈ sm_all) ∨ (k = 902 ∧ Cond.methodLink own q.1 yJ0_charAt_5068e ∈ sm_all) ∨ (k = 903 ∧ Cond.methodLink own q.1 yL_groove ∈ sm_all ∧ own = RL) ∨ (k = 904 ∧ Cond.methodLink own q.1 arraycopyName ∈ sm_all))
  | 10 => q.2.2 = [1, 2] ∧ own = RX3 ∧ q.1 = 170
  | _ => Cond.classLink own q.1 ("[" ++ (FieldType.array .int).toString) ∈ sm_all
def pr_ix (i : Instr) : Option Nat := match i with
  | .invokevirtual idx => some idx
  | .invokestatic idx => some idx
  | .invokespecial idx => some idx
  | _ => none
/-- the calls that are taken as one step -/
def pr_L (own : String) (i : Instr) (dt : List Nat) : Prop := ∀ idx k, pr_ix i = some idx → dt = [k] → (k = 900 → Cond.methodLink own idx objectInit ∈ sm_all) ∧ (k = 901 → Cond.methodLink own idx arraycopyName ∈ sm_all) ∧ (k = 902 → Cond.methodLink own idx yJ0_charAt_5068e ∈ sm_all) ∧ (k = 903 → Cond.methodLink own idx yL_groove ∈ sm_all ∧ own = RL) ∧ (k = 904 → Cond.methodLink own idx arraycopyName ∈ sm_all)
abbrev lk_T : Type := Lean.RArray (Nat × (Nat × List Nat))
noncomputable def lk_is (pl : lk_T) (ks : List Nat) (idx : Nat) (dt : List Nat) : Bool := match ab_get pl idx with
  | some e => ks.any (fun k => Nat.beq k e.1) && decide (e.2 = dt)
  | none => false
noncomputable def pr_chk (ini : Bool) (pl : lk_T) (e : Nat × ab_I) : Bool := match e.2.2.2.1 with
  | .getfield idx => lk_is pl [0, 1, 2] idx e.2.2.2.2.2
  | .putfield idx => lk_is pl [0] idx e.2.2.2.2.2 || (ini && lk_is pl [1] idx e.2.2.2.2.2)
  | .ldc idx => lk_is pl [3, 4] idx e.2.2.2.2.2
  | .ldc2_w idx => lk_is pl [5] idx e.2.2.2.2.2
  | .ldc_w idx => lk_is pl [3] idx e.2.2.2.2.2
  | .getstatic idx => lk_is pl [10] idx e.2.2.2.2.2
  | .new idx => lk_is pl [6] idx e.2.2.2.2.2
  | .newarray at0 => (match at0 with
    | .int => true
    | .boolean => true
    | .byte => true
    | .long => true
    | _ => false)
  | .multianewarray idx _ => lk_is pl [9] idx []
  | .invokevirtual idx => lk_is pl [7, 8] idx e.2.2.2.2.2
  | .invokestatic idx => lk_is pl [7, 8] idx e.2.2.2.2.2
  | .invokespecial idx => lk_is pl [7, 8] idx e.2.2.2.2.2
  | _ => true
theorem lk_is_ok {own : String} {pl : lk_T} {ks : List Nat} {idx : Nat} {dt : List Nat} (hp : ab_AllT (lkP own) pl) (h : lk_is pl ks idx dt = true) : ∃ k ∈ ks, lkP own (idx, k, dt) := by
  unfold lk_is at h
  split at h
  · next e he =>
    have h1 := (Bool.and_eq_true _ _).mp h
    obtain ⟨k, hk, hb⟩ := List.any_eq_true.mp h1.1
    have e1 := Nat.eq_of_beq_eq_true hb
    have e2 := of_decide_eq_true h1.2
    have h2 := ab_AllT_get hp he
    obtain ⟨a, b⟩ := e
    dsimp only at e1 e2
    subst e1; subst e2
    exact ⟨_, hk, h2⟩
  · cases h
def pr_ok (own : String) (ini : Bool) (i : Instr) (dt : List Nat) : Prop := sm_lh own ini i dt ∧ sm_lm own i dt ∧ sm_lc pr_P own i dt ∧ pr_L own i dt
theorem pr_cl (own : String) {idx : Nat} {dt : List Nat} (h : ∃ k ∈ [7, 8], lkP own (idx, k, dt)) : (∀ mid M, dt = [mid] → pr_P mid = some M → sm_ml own idx M.1 ∧ sm_mok M) ∧ (∀ k, dt = [k] → (k = 900 → Cond.methodLink own idx objectInit ∈ sm_all) ∧ (k = 901 → Cond.methodLink own idx arraycopyName ∈ sm_all) ∧ (k = 902 → Cond.methodLink own idx yJ0_charAt_5068e ∈ sm_all) ∧ (k = 903 → Cond.methodLink own idx yL_groove ∈ sm_all ∧ own = RL) ∧ (k = 904 → Cond.methodLink own idx arraycopyName ∈ sm_all)) := by
  obtain ⟨k, hk, h⟩ := h
  rcases List.mem_cons.mp hk with rfl | hk
  · obtain ⟨mid, M, h1, h2, h3, h4, h5⟩ := h
    dsimp only at h1 h4
    subst h1
    refine ⟨fun mid' M' e1 e2 => ?_, fun k e => ?_⟩
    · cases e1
      rw [h3] at e2
      cases e2
      exact ⟨h4, h5⟩
    · cases e
      exact ⟨fun q => by omega, fun q => by omega, fun q => by omega, fun q => by omega, fun q => by omega⟩
  · obtain rfl := List.mem_singleton.mp hk
    obtain ⟨k, h1, h2⟩ := h
    dsimp only at h1 h2
    subst h1
    have hn : ∀ k, 900 ≤ k → pr_P k = none := fun k hk => by
      unfold pr_P
      cases hg : ab_get pr_pt k with
      | none => rfl
      | some M =>
        have h9 := ab_AllT_get (P := fun q => q.1 < 900) pr_low hg
        dsimp only at h9
        omega
    refine ⟨fun mid' M' e1 e2 => ?_, fun k e => ?_⟩
    · cases e1
      rw [hn _ (by rcases h2 with h | h | h | h | h <;> omega)] at e2
      cases e2
    · cases e
      refine ⟨fun q => ?_, fun q => ?_, fun q => ?_, fun q => ?_, fun q => ?_⟩
      · rcases h2 with h | h | h | h | h
        · exact h.2
        · omega
        · omega
        · omega
        · omega
      · rcases h2 with h | h | h | h | h
        · omega
        · exact h.2
        · omega
        · omega
        · omega
      · rcases h2 with h | h | h | h | h
        · omega
        · omega
        · exact h.2
        · omega
        · omega
      · rcases h2 with h | h | h | h | h
        · omega
        · omega
        · omega
        · exact h.2
        · omega
      · rcases h2 with h | h | h | h | h
        · omega
        · omega
        · omega
        · omega
        · exact h.2
theorem pr_L0 {own : String} {i : Instr} {dt : List Nat} (h : pr_ix i = none) : pr_L own i dt := fun idx k e _ => by rw [h] at e; cases e
theorem pr_chk_ok {own : String} {ini : Bool} {pl : lk_T} (hp : ab_AllT (lkP own) pl) {e : Nat × ab_I} (h : pr_chk ini pl e = true) : pr_ok own ini e.2.2.2.1 e.2.2.2.2.2 := by
  obtain ⟨pc, w, g, i, len, dt⟩ := e
  unfold pr_chk at h
  dsimp only at h ⊢
  cases i
  case getfield idx =>
    obtain ⟨k, hk, h1⟩ := lk_is_ok hp h
    refine ⟨fun ci k' t e => ?_, trivial, trivial, pr_L0 rfl⟩
    rcases List.mem_cons.mp hk with rfl | hk
    · exact (h1 ci k' t e).1
    · rcases List.mem_cons.mp hk with rfl | hk
      · exact (h1 ci k' t e).1
      · obtain rfl := List.mem_singleton.mp hk
        exact h1 ci k' t e
  case putfield idx =>
    refine ⟨fun ci k' t e => ?_, trivial, trivial, pr_L0 rfl⟩
    rcases Bool.or_eq_true_iff.mp h with h | h
    · obtain ⟨k, hk, h1⟩ := lk_is_ok hp h
      obtain rfl := List.mem_singleton.mp hk
      exact (h1 ci k' t e).2 ini
    · have h2 := (Bool.and_eq_true _ _).mp h
      obtain ⟨k, hk, h1⟩ := lk_is_ok hp h2.2
      obtain rfl := List.mem_singleton.mp hk
      rw [h2.1]
      exact (h1 ci k' t e).2
  case ldc idx =>
    obtain ⟨k, hk, h1⟩ := lk_is_ok hp h
    refine ⟨?_, trivial, trivial, pr_L0 rfl⟩
    rcases List.mem_cons.mp hk with rfl | hk
    · obtain ⟨x, e, h2⟩ := h1
      dsimp only at e h2
      subst e
      exact ⟨(fun x e => by cases e; exact h2), (fun x e => by cases e), (fun x e => by cases e)⟩
    · obtain rfl := List.mem_singleton.mp hk
      obtain ⟨e, h2, h3⟩ := h1
      dsimp only at e h3
      subst e
      exact ⟨(fun x e => by cases e), (fun x e => by cases e; exact ⟨h2, h3, rfl⟩), (fun x e => by cases e)⟩
  case ldc_w idx =>
    obtain ⟨k, hk, h1⟩ := lk_is_ok hp h
    refine ⟨?_, trivial, trivial, pr_L0 rfl⟩
    obtain rfl := List.mem_singleton.mp hk
    obtain ⟨x, e, h2⟩ := h1
    dsimp only at e h2
    subst e
    exact ⟨(fun x e => by cases e; exact h2), (fun x e => by cases e), (fun x e => by cases e)⟩
  case getstatic idx =>
    obtain ⟨k, hk, h1⟩ := lk_is_ok hp h
    refine ⟨?_, trivial, trivial, pr_L0 rfl⟩
    obtain rfl := List.mem_singleton.mp hk
    obtain ⟨e, h2, h3⟩ := h1
    dsimp only at e h3
    subst e
    exact ⟨(fun x e => by cases e; exact ⟨h2, h3, rfl⟩), (fun x e => by cases e), (fun x e => by cases e)⟩
  case ldc2_w idx =>
    obtain ⟨k, hk, h1⟩ := lk_is_ok hp h
    refine ⟨?_, trivial, trivial, pr_L0 rfl⟩
    obtain rfl := List.mem_singleton.mp hk
    obtain ⟨x, e, h2⟩ := h1
    dsimp only at e h2
    subst e
    exact ⟨(fun x e => by cases e; exact h2), (fun x e => by cases e), (fun x e => by cases e)⟩
  case new idx =>
    obtain ⟨k, hk, h1⟩ := lk_is_ok hp h
    obtain rfl := List.mem_singleton.mp hk
    exact ⟨trivial, h1, trivial, pr_L0 rfl⟩
  case newarray at0 =>
    refine ⟨trivial, ?_, trivial, pr_L0 rfl⟩
    cases at0 <;> first | exact ar_int | exact ar_bool | exact ar_byte | exact ar_long | cases h
  case multianewarray idx d =>
    obtain ⟨k, hk, h1⟩ := lk_is_ok hp h
    obtain rfl := List.mem_singleton.mp hk
    exact ⟨trivial, ⟨h1, ar_int⟩, trivial, pr_L0 rfl⟩
  case invokevirtual idx =>
    have h1 := pr_cl own (lk_is_ok hp h)
    exact ⟨trivial, trivial, h1.1, fun i k e1 e2 => by cases e1; exact h1.2 k e2⟩
  case invokestatic idx =>
    have h1 := pr_cl own (lk_is_ok hp h)
    exact ⟨trivial, trivial, h1.1, fun i k e1 e2 => by cases e1; exact h1.2 k e2⟩
  case invokespecial idx =>
    have h1 := pr_cl own (lk_is_ok hp h)
    exact ⟨trivial, trivial, h1.1, fun i k e1 e2 => by cases e1; exact h1.2 k e2⟩
  all_goals exact ⟨trivial, trivial, trivial, pr_L0 rfl⟩
/-! rows for the leaves -/
theorem lk_f0 {own : String} {idx ci k t : Nat} {C : String} {T : u_T} {N : Nat} {ty : FieldType} (h1 : vwCl[ci]? = some (C, T, N)) (h2 : k < N) (h3 : parseFieldDescriptor (T k).2.2.1 = some ty) (h4 : sm_tc ty = t) (h5 : (T k).2.2.2 = false) (h6 : Cond.fieldLink own idx (T k).1 (T k).2.1 (T k).2.2.1 ∈ sm_all ∨ ∃ host, (own, idx, (T k).1, (T k).2.1, (T k).2.2.1, host) ∈ nfl) : lkP own (idx, 0, [ci, k, t]) := fun ci' k' t' e => by
  cases e
  exact ⟨⟨C, T, N, ty, h1, h2, h3, h4, h6⟩, fun _ => ⟨C, T, N, ty, h1, h2, h3, h4, Or.inl ⟨h5, h6⟩⟩⟩
theorem lk_f1 {own : String} {idx ci k t : Nat} {C : String} {T : u_T} {N : Nat} {ty : FieldType} (h1 : vwCl[ci]? = some (C, T, N)) (h2 : k < N) (h3 : parseFieldDescriptor (T k).2.2.1 = some ty) (h4 : sm_tc ty = t) (h5 : (T k).2.2.2 = true) (h6 : (T k).1 = own) (h7 : Cond.fieldLink own idx (T k).1 (T k).2.1 (T k).2.2.1 ∈ sm_all) : lkP own (idx, 1, [ci, k, t]) := fun ci' k' t' e => by
  cases e
  exact ⟨⟨C, T, N, ty, h1, h2, h3, h4, Or.inl h7⟩, ⟨C, T, N, ty, h1, h2, h3, h4, Or.inr ⟨h5, rfl, h6, h7⟩⟩⟩
theorem lk_f2 {own : String} {idx ci k t : Nat} {C : String} {T : u_T} {N : Nat} {ty : FieldType} (h1 : vwCl[ci]? = some (C, T, N)) (h2 : k < N) (h3 : parseFieldDescriptor (T k).2.2.1 = some ty) (h4 : sm_tc ty = t) (h6 : Cond.fieldLink own idx (T k).1 (T k).2.1 (T k).2.2.1 ∈ sm_all ∨ ∃ host, (own, idx, (T k).1, (T k).2.1, (T k).2.2.1, host) ∈ nfl) : lkP own (idx, 2, [ci, k, t]) := fun ci' k' t' e => by
  cases e
  exact ⟨C, T, N, ty, h1, h2, h3, h4, h6⟩
theorem lk_nw {own : String} {idx ci : Nat} {C : String} {T : u_T} {N : Nat} (h1 : vwCl[ci]? = some (C, T, N)) (h2 : Cond.classLink own idx C ∈ sm_all) : lkP own (idx, 6, [ci]) := fun ci' e => by
  cases e
  exact ⟨C, T, N, h1, h2⟩
theorem lk_cl {own : String} {idx mid : Nat} {M : sm_M} (h1 : pr_P mid = some M) (h0 : mid < 900) (h2 : sm_ml own idx M.1) (h3 : sm_mok M) : lkP own (idx, 7, [mid]) := ⟨mid, M, rfl, h0, h1, h2, h3⟩
def mokb (M : sm_M) : Bool := plainName M.1.cls && (decide (M.1.cls ≠ "java/lang/invoke/MethodHandle") && (decide (M.1.cls ≠ "java/lang/invoke/VarHandle") && decide ((parseMethodDescriptor M.1.desc).map (fun d => d.parameters.length) = some M.2.2.2.2.1)))
theorem mk0 {M : sm_M} (h : mokb M = true) (h0 : M.2.2.2.2.2.1 = 0) (h1 : Cond.code M.1 M.2.1 M.2.2.1 M.2.2.2.1 ∈ sm_all) (h2 : Cond.initialized M.1.cls ∈ sm_all) (h3 : Cond.static M.1 ∈ sm_all) : sm_mok M := by
  obtain ⟨a, b, c, d⟩ := ab_and4' h
  exact ⟨a, h1, h2, ⟨of_decide_eq_true b, of_decide_eq_true c, of_decide_eq_true d⟩, fun _ => h3, (fun q => by rw [h0] at q; cases q), (fun q => by rw [h0] at q; cases q)⟩
theorem mk1 {M : sm_M} (h : mokb M = true) (h0 : M.2.2.2.2.2.1 = 1) (h1 : Cond.code M.1 M.2.1 M.2.2.1 M.2.2.2.1 ∈ sm_all) (h2 : Cond.initialized M.1.cls ∈ sm_all) (h3 : Cond.instanceMethod M.1 ∈ sm_all) (h4 : Cond.selects M.1.cls M.1 M.1 ∈ sm_all) {T : u_T} {N : Nat} (h5 : vwCl[M.2.2.2.2.2.2]? = some (M.1.cls, T, N)) : sm_mok M := by
  obtain ⟨a, b, c, d⟩ := ab_and4' h
  exact ⟨a, h1, h2, ⟨of_decide_eq_true b, of_decide_eq_true c, of_decide_eq_true d⟩, (fun q => by rw [h0] at q; cases q), fun _ => ⟨h3, h4, T, N, h5⟩, (fun q => by rw [h0] at q; cases q)⟩
theorem mk2 {M : sm_M} (h : mokb M = true) (h0 : M.2.2.2.2.2.1 = 2) (h1 : Cond.code M.1 M.2.1 M.2.2.1 M.2.2.2.1 ∈ sm_all) (h2 : Cond.initialized M.1.cls ∈ sm_all) (h3 : Cond.instanceMethod M.1 ∈ sm_all) (h4 : M.1.name = "<init>") (h5 : M.2.2.2.1 = none) : sm_mok M := by
  obtain ⟨a, b, c, d⟩ := ab_and4' h
  exact ⟨a, h1, h2, ⟨of_decide_eq_true b, of_decide_eq_true c, of_decide_eq_true d⟩, (fun q => by rw [h0] at q; cases q), (fun q => by rw [h0] at q; cases q), fun _ => ⟨h3, h4, h5⟩⟩
/-- a method as the tables have it -/
def pr_om (M : sm_M) (m : ab_M) : Prop := ∀ (pc : Nat) (e : ab_I), ab_get m.2.2.2.2.2 pc = some e → decode M.2.1 pc = .ok (e.2.2.1, e.2.2.2.1) ∧ (sm_len e.2.2.1 = 0 ∨ e.2.2.2.1 = sm_len e.2.2.1) ∧ pr_ok M.1.cls (decide (M.2.2.2.2.2.1 = 2)) e.2.2.1 e.2.2.2.2
theorem pr_om_of {M : sm_M} {m : ab_M} {pl : lk_T} (hp : ab_AllT (lkP M.1.cls) pl) (hd : pr_dk M.2.1 (ab_lvs m.2.2.2.2.2)) (hk : (ab_lvs m.2.2.2.2.2).all (pr_chk (decide (M.2.2.2.2.2.1 = 2)) pl) = true) : pr_om M m := fun pc e he => by
  have h1 := ab_lvs_mem he
  have h2 := hd _ h1
  exact ⟨h2.1, h2.2, pr_chk_ok hp (List.all_eq_true.mp hk _ h1)⟩
def pr_o2 (t : Lean.RArray (Nat × sm_M)) : Lean.RArray (Nat × ab_M) → Prop := Lean.RArray.rec (motive := fun _ => Lean.RArray (Nat × ab_M) → Prop)
  (fun x t2 => Lean.RArray.rec (motive := fun _ => Prop) (fun y => x.1 = y.1 ∧ pr_om x.2 y.2) (fun _ _ _ _ _ => False) t2)
  (fun p _ _ il ir t2 => Lean.RArray.rec (motive := fun _ => Prop) (fun _ => False) (fun q l2 r2 _ _ => p = q ∧ (il l2 ∧ ir r2)) t2) t
theorem pr_o2_get {t : Lean.RArray (Nat × sm_M)} {t2 : Lean.RArray (Nat × ab_M)} (h : pr_o2 t t2) {j : Nat} {M : sm_M} {m : ab_M} (h1 : ab_get t j = some M) (h2 : ab_get t2 j = some m) : pr_om M m := by
  induction t generalizing t2 with
  | leaf x =>
    cases t2 with
    | leaf y =>
      have h : x.1 = y.1 ∧ pr_om x.2 y.2 := h
      rw [ab_get_leaf] at h1 h2
      split at h1
      · cases h1
        split at h2
        · cases h2
          exact h.2
        · cases h2
      · cases h1
    | branch _ _ _ => exact (show False from h).elim
  | branch p l r ihl ihr =>
    cases t2 with
    | leaf y => exact (show False from h).elim
    | branch q l2 r2 =>
      have h : p = q ∧ (pr_o2 l l2 ∧ pr_o2 r r2) := h
      obtain ⟨rfl, h3, h4⟩ := h
      rw [ab_get_branch] at h1 h2
      split at h1
      · next e => rw [if_pos e] at h2; exact ihr h4 h1 h2
      · next e => rw [if_neg e] at h2; exact ihl h3 h1 h2
theorem pr_pok_of (h : pr_o2 pr_pt pr_mt) : sm_pok pr_P pr_K pr_L := by
  intro mid M pc i len dt hP hK
  unfold pr_K at hK
  split at hK
  · next m hm =>
    cases he : ab_get m.2.2.2.2.2 pc with
    | none => rw [he] at hK; cases hK
    | some e =>
      rw [he] at hK
      cases hK
      obtain ⟨a, b, c⟩ := pr_o2_get h hP hm pc e he
      exact ⟨a, b, c.1, c.2.1, c.2.2.1, c.2.2.2⟩
  · cases hK
end
section
theorem pgX0_init : pr_P 1 = some (yX0_init, cX0_init, 1, none, 0, 2, 0) := rfl
theorem moX0_init : sm_mok (yX0_init, cX0_init, 1, none, 0, 2, 0) := mk2 (by decide +kernel) rfl pw_450 pw_451 pw_452 rfl rfl
theorem pgX0_wipe : pr_P 2 = some (yX0_wipe, cX0_wipe, 2, none, 0, 1, 0) := rfl
theorem moX0_wipe : sm_mok (yX0_wipe, cX0_wipe, 2, none, 0, 1, 0) := mk1 (T := TX0) (N := 7) (by decide +kernel) rfl pw_453 pw_451 pw_454 pw_455 rfl
theorem pgX0_add : pr_P 3 = some (yX0_add, cX0_add, 2, none, 1, 1, 0) := rfl
theorem moX0_add : sm_mok (yX0_add, cX0_add, 2, none, 1, 1, 0) := mk1 (T := TX0) (N := 7) (by decide +kernel) rfl pw_456 pw_451 pw_457 pw_458 rfl
theorem pgX0_work : pr_P 4 = some (yX0_work, cX0_work, 7, some .long, 1, 1, 0) := rfl
theorem moX0_work : sm_mok (yX0_work, cX0_work, 7, some .long, 1, 1, 0) := mk1 (T := TX0) (N := 7) (by decide +kernel) rfl pw_459 pw_451 pw_460 pw_461 rfl
theorem pgX0_apply : pr_P 5 = some (yX0_apply, cX0_apply, 9, some .long, 3, 0, 0) := rfl
theorem moX0_apply : sm_mok (yX0_apply, cX0_apply, 9, some .long, 3, 0, 0) := mk0 (by decide +kernel) rfl pw_462 pw_451 pw_463
theorem pgX1_init : pr_P 6 = some (yX1_init, cX1_init, 1, none, 0, 2, 1) := rfl
theorem moX1_init : sm_mok (yX1_init, cX1_init, 1, none, 0, 2, 1) := mk2 (by decide +kernel) rfl pw_464 pw_465 pw_466 rfl rfl
theorem pgX1_start : pr_P 7 = some (yX1_start, cX1_start, 3, none, 1, 1, 1) := rfl
theorem moX1_start : sm_mok (yX1_start, cX1_start, 3, none, 1, 1, 1) := mk1 (T := TX1) (N := 11) (by decide +kernel) rfl pw_467 pw_465 pw_468 pw_469 rfl
theorem pgX1_copy : pr_P 8 = some (yX1_copy, cX1_copy, 2, none, 1, 1, 1) := rfl
theorem moX1_copy : sm_mok (yX1_copy, cX1_copy, 2, none, 1, 1, 1) := mk1 (T := TX1) (N := 11) (by decide +kernel) rfl pw_470 pw_465 pw_471 pw_472 rfl
theorem pgX1_rewind : pr_P 9 = some (yX1_rewind, cX1_rewind, 2, none, 1, 1, 1) := rfl
theorem moX1_rewind : sm_mok (yX1_rewind, cX1_rewind, 2, none, 1, 1, 1) := mk1 (T := TX1) (N := 11) (by decide +kernel) rfl pw_473 pw_465 pw_474 pw_475 rfl
theorem pgX1_push : pr_P 10 = some (yX1_push, cX1_push, 3, none, 2, 1, 1) := rfl
theorem moX1_push : sm_mok (yX1_push, cX1_push, 3, none, 2, 1, 1) := mk1 (T := TX1) (N := 11) (by decide +kernel) rfl pw_476 pw_465 pw_477 pw_478 rfl
theorem pgX1_move : pr_P 11 = some (yX1_move, cX1_move, 4, none, 2, 1, 1) := rfl
theorem moX1_move : sm_mok (yX1_move, cX1_move, 4, none, 2, 1, 1) := mk1 (T := TX1) (N := 11) (by decide +kernel) rfl pw_479 pw_465 pw_480 pw_481 rfl
theorem pgX1_draw : pr_P 12 = some (yX1_draw, cX1_draw, 1, some .int, 0, 1, 1) := rfl
theorem moX1_draw : sm_mok (yX1_draw, cX1_draw, 1, some .int, 0, 1, 1) := mk1 (T := TX1) (N := 11) (by decide +kernel) rfl pw_482 pw_465 pw_483 pw_484 rfl
theorem pgX2_init : pr_P 13 = some (yX2_init, cX2_init, 3, none, 2, 2, 2) := rfl
theorem moX2_init : sm_mok (yX2_init, cX2_init, 3, none, 2, 2, 2) := mk2 (by decide +kernel) rfl pw_485 pw_486 pw_487 rfl rfl
theorem pgX2_take : pr_P 14 = some (yX2_take, cX2_take, 3, none, 2, 1, 2) := rfl
theorem moX2_take : sm_mok (yX2_take, cX2_take, 3, none, 2, 1, 2) := mk1 (T := TX2) (N := 12) (by decide +kernel) rfl pw_488 pw_486 pw_489 pw_490 rfl
theorem pgX2_run : pr_P 15 = some (yX2_run, cX2_run, 3, some .int, 1, 1, 2) := rfl
theorem moX2_run : sm_mok (yX2_run, cX2_run, 3, some .int, 1, 1, 2) := mk1 (T := TX2) (N := 12) (by decide +kernel) rfl pw_491 pw_486 pw_492 pw_493 rfl
theorem pgX2_turn : pr_P 16 = some (yX2_turn, cX2_turn, 6, none, 0, 1, 2) := rfl
theorem moX2_turn : sm_mok (yX2_turn, cX2_turn, 6, none, 0, 1, 2) := mk1 (T := TX2) (N := 12) (by decide +kernel) rfl pw_494 pw_486 pw_495 pw_496 rfl
theorem pgX2_drawnWay : pr_P 17 = some (yX2_drawnWay, cX2_drawnWay, 4, some .int, 2, 1, 2) := rfl
theorem moX2_drawnWay : sm_mok (yX2_drawnWay, cX2_drawnWay, 4, some .int, 2, 1, 2) := mk1 (T := TX2) (N := 12) (by decide +kernel) rfl pw_497 pw_486 pw_498 pw_499 rfl
theorem pgX2_likelyWay : pr_P 18 = some (yX2_likelyWay, cX2_likelyWay, 2, some .int, 2, 0, 2) := rfl
theorem moX2_likelyWay : sm_mok (yX2_likelyWay, cX2_likelyWay, 2, some .int, 2, 0, 2) := mk0 (by decide +kernel) rfl pw_500 pw_486 pw_501
theorem pgX2_throwNeedle : pr_P 19 = some (yX2_throwNeedle, cX2_throwNeedle, 5, none, 2, 1, 2) := rfl
theorem moX2_throwNeedle : sm_mok (yX2_throwNeedle, cX2_throwNeedle, 5, none, 2, 1, 2) := mk1 (T := TX2) (N := 12) (by decide +kernel) rfl pw_502 pw_486 pw_503 pw_504 rfl
theorem pgX2_listen : pr_P 20 = some (yX2_listen, cX2_listen, 3, none, 0, 1, 2) := rfl
theorem moX2_listen : sm_mok (yX2_listen, cX2_listen, 3, none, 0, 1, 2) := mk1 (T := TX2) (N := 12) (by decide +kernel) rfl pw_505 pw_486 pw_506 pw_507 rfl
theorem pgX2_backOdds : pr_P 21 = some (yX2_backOdds, cX2_backOdds, 4, some .int, 1, 1, 2) := rfl
theorem moX2_backOdds : sm_mok (yX2_backOdds, cX2_backOdds, 4, some .int, 1, 1, 2) := mk1 (T := TX2) (N := 12) (by decide +kernel) rfl pw_508 pw_486 pw_509 pw_510 rfl
theorem pgX2_onOdds : pr_P 22 = some (yX2_onOdds, cX2_onOdds, 4, some .int, 2, 1, 2) := rfl
theorem moX2_onOdds : sm_mok (yX2_onOdds, cX2_onOdds, 4, some .int, 2, 1, 2) := mk1 (T := TX2) (N := 12) (by decide +kernel) rfl pw_511 pw_486 pw_512 pw_513 rfl
theorem pgX2_wearOf : pr_P 23 = some (yX2_wearOf, cX2_wearOf, 4, some .int, 1, 1, 2) := rfl
theorem moX2_wearOf : sm_mok (yX2_wearOf, cX2_wearOf, 4, some .int, 1, 1, 2) := mk1 (T := TX2) (N := 12) (by decide +kernel) rfl pw_514 pw_486 pw_515 pw_516 rfl
theorem pgX2_worthOf : pr_P 24 = some (yX2_worthOf, cX2_worthOf, 4, some .int, 1, 1, 2) := rfl
theorem moX2_worthOf : sm_mok (yX2_worthOf, cX2_worthOf, 4, some .int, 1, 1, 2) := mk1 (T := TX2) (N := 12) (by decide +kernel) rfl pw_517 pw_486 pw_518 pw_519 rfl
theorem pgX2_cut : pr_P 25 = some (yX2_cut, cX2_cut, 3, some .int, 2, 0, 2) := rfl
theorem moX2_cut : sm_mok (yX2_cut, cX2_cut, 3, some .int, 2, 0, 2) := mk0 (by decide +kernel) rfl pw_520 pw_486 pw_521
theorem pgX2_nameScratch : pr_P 26 = some (yX2_nameScratch, cX2_nameScratch, 3, none, 1, 1, 2) := rfl
theorem moX2_nameScratch : sm_mok (yX2_nameScratch, cX2_nameScratch, 3, none, 1, 1, 2) := mk1 (T := TX2) (N := 12) (by decide +kernel) rfl pw_522 pw_486 pw_523 pw_524 rfl
theorem pgX2_nameGroove : pr_P 27 = some (yX2_nameGroove, cX2_nameGroove, 3, none, 1, 1, 2) := rfl
theorem moX2_nameGroove : sm_mok (yX2_nameGroove, cX2_nameGroove, 3, none, 1, 1, 2) := mk1 (T := TX2) (N := 12) (by decide +kernel) rfl pw_525 pw_486 pw_526 pw_527 rfl
theorem pgX2_spread : pr_P 28 = some (yX2_spread, cX2_spread, 15, none, 3, 1, 2) := rfl
theorem moX2_spread : sm_mok (yX2_spread, cX2_spread, 15, none, 3, 1, 2) := mk1 (T := TX2) (N := 12) (by decide +kernel) rfl pw_528 pw_486 pw_529 pw_530 rfl
theorem pgX3_init : pr_P 29 = some (yX3_init, cX3_init, 7, none, 2, 2, 3) := rfl
theorem moX3_init : sm_mok (yX3_init, cX3_init, 7, none, 2, 2, 3) := mk2 (by decide +kernel) rfl pw_531 pw_532 pw_533 rfl rfl
theorem pgX3_read : pr_P 30 = some (yX3_read, cX3_read, 4, some .boolean, 2, 1, 3) := rfl
theorem moX3_read : sm_mok (yX3_read, cX3_read, 4, some .boolean, 2, 1, 3) := mk1 (T := TX3) (N := 14) (by decide +kernel) rfl pw_534 pw_532 pw_535 pw_536 rfl
theorem pgX3_flaw : pr_P 31 = some (yX3_flaw, cX3_flaw, 3, none, 2, 1, 3) := rfl
theorem moX3_flaw : sm_mok (yX3_flaw, cX3_flaw, 3, none, 2, 1, 3) := mk1 (T := TX3) (N := 14) (by decide +kernel) rfl pw_537 pw_532 pw_538 pw_539 rfl
theorem pgX3_readLine : pr_P 32 = some (yX3_readLine, cX3_readLine, 1, none, 0, 1, 3) := rfl
theorem moX3_readLine : sm_mok (yX3_readLine, cX3_readLine, 1, none, 0, 1, 3) := mk1 (T := TX3) (N := 14) (by decide +kernel) rfl pw_540 pw_532 pw_541 pw_542 rfl
theorem pgX3_readGroove : pr_P 33 = some (yX3_readGroove, cX3_readGroove, 2, none, 0, 1, 3) := rfl
theorem moX3_readGroove : sm_mok (yX3_readGroove, cX3_readGroove, 2, none, 0, 1, 3) := mk1 (T := TX3) (N := 14) (by decide +kernel) rfl pw_543 pw_532 pw_544 pw_545 rfl
theorem pgX3_readScratch : pr_P 34 = some (yX3_readScratch, cX3_readScratch, 5, none, 0, 1, 3) := rfl
theorem moX3_readScratch : sm_mok (yX3_readScratch, cX3_readScratch, 5, none, 0, 1, 3) := mk1 (T := TX3) (N := 14) (by decide +kernel) rfl pw_546 pw_532 pw_547 pw_548 rfl
theorem pgX3_readGuest : pr_P 35 = some (yX3_readGuest, cX3_readGuest, 3, none, 0, 1, 3) := rfl
theorem moX3_readGuest : sm_mok (yX3_readGuest, cX3_readGuest, 3, none, 0, 1, 3) := mk1 (T := TX3) (N := 14) (by decide +kernel) rfl pw_549 pw_532 pw_550 pw_551 rfl
theorem pgX3_readOnce : pr_P 36 = some (yX3_readOnce, cX3_readOnce, 2, none, 1, 1, 3) := rfl
theorem moX3_readOnce : sm_mok (yX3_readOnce, cX3_readOnce, 2, none, 1, 1, 3) := mk1 (T := TX3) (N := 14) (by decide +kernel) rfl pw_552 pw_532 pw_553 pw_554 rfl
theorem pgX3_readNumber : pr_P 37 = some (yX3_readNumber, cX3_readNumber, 4, some .int, 2, 1, 3) := rfl
theorem moX3_readNumber : sm_mok (yX3_readNumber, cX3_readNumber, 4, some .int, 2, 1, 3) := mk1 (T := TX3) (N := 14) (by decide +kernel) rfl pw_555 pw_532 pw_556 pw_557 rfl
theorem pgX3_readLaw : pr_P 38 = some (yX3_readLaw, cX3_readLaw, 5, none, 0, 1, 3) := rfl
theorem moX3_readLaw : sm_mok (yX3_readLaw, cX3_readLaw, 5, none, 0, 1, 3) := mk1 (T := TX3) (N := 14) (by decide +kernel) rfl pw_558 pw_532 pw_559 pw_560 rfl
theorem pgX3_readOperand : pr_P 39 = some (yX3_readOperand, cX3_readOperand, 1, some .boolean, 0, 1, 3) := rfl
theorem moX3_readOperand : sm_mok (yX3_readOperand, cX3_readOperand, 1, some .boolean, 0, 1, 3) := mk1 (T := TX3) (N := 14) (by decide +kernel) rfl pw_561 pw_532 pw_562 pw_563 rfl
theorem pgX3_readSign : pr_P 40 = some (yX3_readSign, cX3_readSign, 2, some .boolean, 0, 1, 3) := rfl
theorem moX3_readSign : sm_mok (yX3_readSign, cX3_readSign, 2, some .boolean, 0, 1, 3) := mk1 (T := TX3) (N := 14) (by decide +kernel) rfl pw_564 pw_532 pw_565 pw_566 rfl
theorem pgX3_waitingRank : pr_P 41 = some (yX3_waitingRank, cX3_waitingRank, 1, some .int, 0, 1, 3) := rfl
theorem moX3_waitingRank : sm_mok (yX3_waitingRank, cX3_waitingRank, 1, some .int, 0, 1, 3) := mk1 (T := TX3) (N := 14) (by decide +kernel) rfl pw_567 pw_532 pw_568 pw_569 rfl
theorem pgX3_unwind : pr_P 42 = some (yX3_unwind, cX3_unwind, 2, none, 1, 1, 3) := rfl
theorem moX3_unwind : sm_mok (yX3_unwind, cX3_unwind, 2, none, 1, 1, 3) := mk1 (T := TX3) (N := 14) (by decide +kernel) rfl pw_570 pw_532 pw_571 pw_572 rfl
theorem pgX3_push : pr_P 43 = some (yX3_push, cX3_push, 2, none, 1, 1, 3) := rfl
theorem moX3_push : sm_mok (yX3_push, cX3_push, 2, none, 1, 1, 3) := mk1 (T := TX3) (N := 14) (by decide +kernel) rfl pw_573 pw_532 pw_574 pw_575 rfl
theorem pgX3_tie : pr_P 44 = some (yX3_tie, cX3_tie, 1, none, 0, 1, 3) := rfl
theorem moX3_tie : sm_mok (yX3_tie, cX3_tie, 1, none, 0, 1, 3) := mk1 (T := TX3) (N := 14) (by decide +kernel) rfl pw_576 pw_532 pw_577 pw_578 rfl
theorem pgX3_next : pr_P 45 = some (yX3_next, cX3_next, 2, none, 0, 1, 3) := rfl
theorem moX3_next : sm_mok (yX3_next, cX3_next, 2, none, 0, 1, 3) := mk1 (T := TX3) (N := 14) (by decide +kernel) rfl pw_579 pw_532 pw_580 pw_581 rfl
theorem pgX3_nextNumber : pr_P 46 = some (yX3_nextNumber, cX3_nextNumber, 1, none, 0, 1, 3) := rfl
theorem moX3_nextNumber : sm_mok (yX3_nextNumber, cX3_nextNumber, 1, none, 0, 1, 3) := mk1 (T := TX3) (N := 14) (by decide +kernel) rfl pw_582 pw_532 pw_583 pw_584 rfl
theorem pgX3_nextWord : pr_P 47 = some (yX3_nextWord, cX3_nextWord, 3, none, 0, 1, 3) := rfl
theorem moX3_nextWord : sm_mok (yX3_nextWord, cX3_nextWord, 3, none, 0, 1, 3) := mk1 (T := TX3) (N := 14) (by decide +kernel) rfl pw_585 pw_532 pw_586 pw_587 rfl
theorem pgX3_takeLanguageWord : pr_P 48 = some (yX3_takeLanguageWord, cX3_takeLanguageWord, 2, none, 1, 1, 3) := rfl
theorem moX3_takeLanguageWord : sm_mok (yX3_takeLanguageWord, cX3_takeLanguageWord, 2, none, 1, 1, 3) := mk1 (T := TX3) (N := 14) (by decide +kernel) rfl pw_588 pw_532 pw_589 pw_590 rfl
theorem pgX3_sign : pr_P 49 = some (yX3_sign, cX3_sign, 2, some .int, 1, 1, 3) := rfl
theorem moX3_sign : sm_mok (yX3_sign, cX3_sign, 2, some .int, 1, 1, 3) := mk1 (T := TX3) (N := 14) (by decide +kernel) rfl pw_591 pw_532 pw_592 pw_593 rfl
theorem pgX3_follows : pr_P 50 = some (yX3_follows, cX3_follows, 2, some .boolean, 1, 1, 3) := rfl
theorem moX3_follows : sm_mok (yX3_follows, cX3_follows, 2, some .boolean, 1, 1, 3) := mk1 (T := TX3) (N := 14) (by decide +kernel) rfl pw_594 pw_532 pw_595 pw_596 rfl
theorem pgX4_init : pr_P 51 = some (yX4_init, cX4_init, 1, none, 0, 2, 4) := rfl
theorem moX4_init : sm_mok (yX4_init, cX4_init, 1, none, 0, 2, 4) := mk2 (by decide +kernel) rfl pw_597 pw_598 pw_599 rfl rfl
theorem pgX4_wipe : pr_P 52 = some (yX4_wipe, cX4_wipe, 2, none, 0, 1, 4) := rfl
theorem moX4_wipe : sm_mok (yX4_wipe, cX4_wipe, 2, none, 0, 1, 4) := mk1 (T := TX4) (N := 15) (by decide +kernel) rfl pw_600 pw_598 pw_601 pw_602 rfl
theorem pgX4_guestNamed : pr_P 53 = some (yX4_guestNamed, cX4_guestNamed, 3, some .int, 1, 1, 4) := rfl
theorem moX4_guestNamed : sm_mok (yX4_guestNamed, cX4_guestNamed, 3, some .int, 1, 1, 4) := mk1 (T := TX4) (N := 15) (by decide +kernel) rfl pw_603 pw_598 pw_604 pw_605 rfl
theorem pgX5_init : pr_P 54 = some (yX5_init, cX5_init, 1, none, 0, 2, 5) := rfl
theorem moX5_init : sm_mok (yX5_init, cX5_init, 1, none, 0, 2, 5) := mk2 (by decide +kernel) rfl pw_606 pw_607 pw_608 rfl rfl
theorem pgX5_remember : pr_P 55 = some (yX5_remember, cX5_remember, 2, none, 1, 1, 5) := rfl
theorem moX5_remember : sm_mok (yX5_remember, cX5_remember, 2, none, 1, 1, 5) := mk1 (T := TX5) (N := 4) (by decide +kernel) rfl pw_609 pw_607 pw_610 pw_611 rfl
theorem pgX5_recall : pr_P 56 = some (yX5_recall, cX5_recall, 2, none, 1, 1, 5) := rfl
theorem moX5_recall : sm_mok (yX5_recall, cX5_recall, 2, none, 1, 1, 5) := mk1 (T := TX5) (N := 4) (by decide +kernel) rfl pw_612 pw_607 pw_613 pw_614 rfl
theorem pgX6_init : pr_P 57 = some (yX6_init, cX6_init, 1, none, 0, 2, 6) := rfl
theorem moX6_init : sm_mok (yX6_init, cX6_init, 1, none, 0, 2, 6) := mk2 (by decide +kernel) rfl pw_615 pw_616 pw_617 rfl rfl
theorem pgX6_wipe : pr_P 58 = some (yX6_wipe, cX6_wipe, 1, none, 0, 1, 6) := rfl
theorem moX6_wipe : sm_mok (yX6_wipe, cX6_wipe, 1, none, 0, 1, 6) := mk1 (T := TX6) (N := 7) (by decide +kernel) rfl pw_618 pw_616 pw_619 pw_620 rfl
theorem pgX6_add : pr_P 59 = some (yX6_add, cX6_add, 5, some .int, 4, 1, 6) := rfl
theorem moX6_add : sm_mok (yX6_add, cX6_add, 5, some .int, 4, 1, 6) := mk1 (T := TX6) (N := 7) (by decide +kernel) rfl pw_621 pw_616 pw_622 pw_623 rfl
theorem pgX6_knownCount : pr_P 60 = some (yX6_knownCount, cX6_knownCount, 1, some .int, 0, 1, 6) := rfl
theorem moX6_knownCount : sm_mok (yX6_knownCount, cX6_knownCount, 1, some .int, 0, 1, 6) := mk1 (T := TX6) (N := 7) (by decide +kernel) rfl pw_624 pw_616 pw_625 pw_626 rfl
theorem pgX6_markStruck : pr_P 61 = some (yX6_markStruck, cX6_markStruck, 2, none, 0, 1, 6) := rfl
theorem moX6_markStruck : sm_mok (yX6_markStruck, cX6_markStruck, 2, none, 0, 1, 6) := mk1 (T := TX6) (N := 7) (by decide +kernel) rfl pw_627 pw_616 pw_628 pw_629 rfl
theorem pgX6_agrees : pr_P 62 = some (yX6_agrees, cX6_agrees, 3, some .boolean, 1, 1, 6) := rfl
theorem moX6_agrees : sm_mok (yX6_agrees, cX6_agrees, 3, some .boolean, 1, 1, 6) := mk1 (T := TX6) (N := 7) (by decide +kernel) rfl pw_630 pw_616 pw_631 pw_632 rfl
theorem pgX7_init : pr_P 63 = some (yX7_init, cX7_init, 1, none, 0, 2, 7) := rfl
theorem moX7_init : sm_mok (yX7_init, cX7_init, 1, none, 0, 2, 7) := mk2 (by decide +kernel) rfl pw_633 pw_634 pw_635 rfl rfl
theorem pgX7_feed : pr_P 64 = some (yX7_feed, cX7_feed, 6, some .int, 5, 1, 7) := rfl
theorem moX7_feed : sm_mok (yX7_feed, cX7_feed, 6, some .int, 5, 1, 7) := mk1 (T := TX7) (N := 17) (by decide +kernel) rfl pw_636 pw_634 pw_637 pw_638 rfl
theorem pgX7_putBytes : pr_P 65 = some (yX7_putBytes, cX7_putBytes, 3, none, 1, 1, 7) := rfl
theorem moX7_putBytes : sm_mok (yX7_putBytes, cX7_putBytes, 3, none, 1, 1, 7) := mk1 (T := TX7) (N := 17) (by decide +kernel) rfl pw_639 pw_634 pw_640 pw_641 rfl
theorem pgX7_text : pr_P 66 = some (yX7_text, cX7_text, 4, some .int, 1, 1, 7) := rfl
theorem moX7_text : sm_mok (yX7_text, cX7_text, 4, some .int, 1, 1, 7) := mk1 (T := TX7) (N := 17) (by decide +kernel) rfl pw_642 pw_634 pw_643 pw_644 rfl
theorem pgX7_fault : pr_P 67 = some (yX7_fault, cX7_fault, 2, some .int, 1, 1, 7) := rfl
theorem moX7_fault : sm_mok (yX7_fault, cX7_fault, 2, some .int, 1, 1, 7) := mk1 (T := TX7) (N := 17) (by decide +kernel) rfl pw_645 pw_634 pw_646 pw_647 rfl
theorem pgX7_named : pr_P 68 = some (yX7_named, cX7_named, 2, some .int, 1, 1, 7) := rfl
theorem moX7_named : sm_mok (yX7_named, cX7_named, 2, some .int, 1, 1, 7) := mk1 (T := TX7) (N := 17) (by decide +kernel) rfl pw_648 pw_634 pw_649 pw_650 rfl
theorem pgX7_scratch : pr_P 69 = some (yX7_scratch, cX7_scratch, 3, some .int, 2, 1, 7) := rfl
theorem moX7_scratch : sm_mok (yX7_scratch, cX7_scratch, 3, some .int, 2, 1, 7) := mk1 (T := TX7) (N := 17) (by decide +kernel) rfl pw_651 pw_634 pw_652 pw_653 rfl
theorem pgX7_guest : pr_P 70 = some (yX7_guest, cX7_guest, 3, some .int, 2, 1, 7) := rfl
theorem moX7_guest : sm_mok (yX7_guest, cX7_guest, 3, some .int, 2, 1, 7) := mk1 (T := TX7) (N := 17) (by decide +kernel) rfl pw_654 pw_634 pw_655 pw_656 rfl
theorem pgX7_law : pr_P 71 = some (yX7_law, cX7_law, 3, some .long, 2, 1, 7) := rfl
theorem moX7_law : sm_mok (yX7_law, cX7_law, 3, some .long, 2, 1, 7) := mk1 (T := TX7) (N := 17) (by decide +kernel) rfl pw_657 pw_634 pw_658 pw_659 rfl
theorem pgX7_isGroove : pr_P 72 = some (yX7_isGroove, cX7_isGroove, 2, some .boolean, 1, 1, 7) := rfl
theorem moX7_isGroove : sm_mok (yX7_isGroove, cX7_isGroove, 2, some .boolean, 1, 1, 7) := mk1 (T := TX7) (N := 17) (by decide +kernel) rfl pw_660 pw_634 pw_661 pw_662 rfl
theorem pgX7_isScratch : pr_P 73 = some (yX7_isScratch, cX7_isScratch, 2, some .boolean, 1, 1, 7) := rfl
theorem moX7_isScratch : sm_mok (yX7_isScratch, cX7_isScratch, 2, some .boolean, 1, 1, 7) := mk1 (T := TX7) (N := 17) (by decide +kernel) rfl pw_663 pw_634 pw_664 pw_665 rfl
theorem pgX7_isGuest : pr_P 74 = some (yX7_isGuest, cX7_isGuest, 2, some .boolean, 1, 1, 7) := rfl
theorem moX7_isGuest : sm_mok (yX7_isGuest, cX7_isGuest, 2, some .boolean, 1, 1, 7) := mk1 (T := TX7) (N := 17) (by decide +kernel) rfl pw_666 pw_634 pw_667 pw_668 rfl
theorem pgX7_within : pr_P 75 = some (yX7_within, cX7_within, 3, some .boolean, 3, 0, 7) := rfl
theorem moX7_within : sm_mok (yX7_within, cX7_within, 3, some .boolean, 3, 0, 7) := mk0 (by decide +kernel) rfl pw_669 pw_634 pw_670
theorem pgX7_weigh : pr_P 76 = some (yX7_weigh, cX7_weigh, 2, some .boolean, 1, 1, 7) := rfl
theorem moX7_weigh : sm_mok (yX7_weigh, cX7_weigh, 2, some .boolean, 1, 1, 7) := mk1 (T := TX7) (N := 17) (by decide +kernel) rfl pw_671 pw_634 pw_672 pw_673 rfl
theorem pgX7_nudge : pr_P 77 = some (yX7_nudge, cX7_nudge, 2, some .int, 1, 1, 7) := rfl
theorem moX7_nudge : sm_mok (yX7_nudge, cX7_nudge, 2, some .int, 1, 1, 7) := mk1 (T := TX7) (N := 17) (by decide +kernel) rfl pw_674 pw_634 pw_675 pw_676 rfl
theorem pgX7_anew : pr_P 78 = some (yX7_anew, cX7_anew, 1, some .boolean, 0, 1, 7) := rfl
theorem moX7_anew : sm_mok (yX7_anew, cX7_anew, 1, some .boolean, 0, 1, 7) := mk1 (T := TX7) (N := 17) (by decide +kernel) rfl pw_677 pw_634 pw_678 pw_679 rfl
theorem pgX7_go : pr_P 79 = some (yX7_go, cX7_go, 3, some .int, 1, 1, 7) := rfl
theorem moX7_go : sm_mok (yX7_go, cX7_go, 3, some .int, 1, 1, 7) := mk1 (T := TX7) (N := 17) (by decide +kernel) rfl pw_680 pw_634 pw_681 pw_682 rfl
theorem pgX7_out : pr_P 80 = some (yX7_out, cX7_out, 4, some .int, 2, 1, 7) := rfl
theorem moX7_out : sm_mok (yX7_out, cX7_out, 4, some .int, 2, 1, 7) := mk1 (T := TX7) (N := 17) (by decide +kernel) rfl pw_683 pw_634 pw_684 pw_685 rfl
theorem pgX7_tryNow : pr_P 81 = some (yX7_tryNow, cX7_tryNow, 2, none, 1, 1, 7) := rfl
theorem moX7_tryNow : sm_mok (yX7_tryNow, cX7_tryNow, 2, none, 1, 1, 7) := mk1 (T := TX7) (N := 17) (by decide +kernel) rfl pw_686 pw_634 pw_687 pw_688 rfl
theorem pgX7_loop : pr_P 82 = some (yX7_loop, cX7_loop, 3, some .int, 0, 1, 7) := rfl
theorem moX7_loop : sm_mok (yX7_loop, cX7_loop, 3, some .int, 0, 1, 7) := mk1 (T := TX7) (N := 17) (by decide +kernel) rfl pw_689 pw_634 pw_690 pw_691 rfl
theorem pgX7_likely : pr_P 83 = some (yX7_likely, cX7_likely, 8, some .long, 3, 1, 7) := rfl
theorem moX7_likely : sm_mok (yX7_likely, cX7_likely, 8, some .long, 3, 1, 7) := mk1 (T := TX7) (N := 17) (by decide +kernel) rfl pw_692 pw_634 pw_693 pw_694 rfl
theorem pgX7_hundreds : pr_P 84 = some (yX7_hundreds, cX7_hundreds, 4, some .long, 1, 0, 7) := rfl
theorem moX7_hundreds : sm_mok (yX7_hundreds, cX7_hundreds, 4, some .long, 1, 0, 7) := mk0 (by decide +kernel) rfl pw_695 pw_634 pw_696
theorem pgX7_greatestCommon : pr_P 85 = some (yX7_greatestCommon, cX7_greatestCommon, 11, some .long, 2, 0, 7) := rfl
theorem moX7_greatestCommon : sm_mok (yX7_greatestCommon, cX7_greatestCommon, 11, some .long, 2, 0, 7) := mk0 (by decide +kernel) rfl pw_697 pw_634 pw_698
theorem pgX7_light : pr_P 86 = some (yX7_light, cX7_light, 6, some .int, 1, 1, 7) := rfl
theorem moX7_light : sm_mok (yX7_light, cX7_light, 6, some .int, 1, 1, 7) := mk1 (T := TX7) (N := 17) (by decide +kernel) rfl pw_699 pw_634 pw_700 pw_701 rfl
theorem pgX7_when : pr_P 87 = some (yX7_when, cX7_when, 7, some .int, 2, 1, 7) := rfl
theorem moX7_when : sm_mok (yX7_when, cX7_when, 7, some .int, 2, 1, 7) := mk1 (T := TX7) (N := 17) (by decide +kernel) rfl pw_702 pw_634 pw_703 pw_704 rfl
theorem pgX7_plays : pr_P 88 = some (yX7_plays, cX7_plays, 2, some .int, 0, 1, 7) := rfl
theorem moX7_plays : sm_mok (yX7_plays, cX7_plays, 2, some .int, 0, 1, 7) := mk1 (T := TX7) (N := 17) (by decide +kernel) rfl pw_705 pw_634 pw_706 pw_707 rfl
theorem pgX7_missed : pr_P 89 = some (yX7_missed, cX7_missed, 4, some .int, 1, 1, 7) := rfl
theorem moX7_missed : sm_mok (yX7_missed, cX7_missed, 4, some .int, 1, 1, 7) := mk1 (T := TX7) (N := 17) (by decide +kernel) rfl pw_708 pw_634 pw_709 pw_710 rfl
theorem pgX7_rests : pr_P 90 = some (yX7_rests, cX7_rests, 3, some .int, 2, 1, 7) := rfl
theorem moX7_rests : sm_mok (yX7_rests, cX7_rests, 3, some .int, 2, 1, 7) := mk1 (T := TX7) (N := 17) (by decide +kernel) rfl pw_711 pw_634 pw_712 pw_713 rfl
theorem pgX7_rest : pr_P 91 = some (yX7_rest, cX7_rest, 7, some .int, 3, 1, 7) := rfl
theorem moX7_rest : sm_mok (yX7_rest, cX7_rest, 7, some .int, 3, 1, 7) := mk1 (T := TX7) (N := 17) (by decide +kernel) rfl pw_714 pw_634 pw_715 pw_716 rfl
theorem pgX7_canWait : pr_P 92 = some (yX7_canWait, cX7_canWait, 3, some .boolean, 2, 1, 7) := rfl
theorem moX7_canWait : sm_mok (yX7_canWait, cX7_canWait, 3, some .boolean, 2, 1, 7) := mk1 (T := TX7) (N := 17) (by decide +kernel) rfl pw_717 pw_634 pw_718 pw_719 rfl
theorem pgX7_restBits : pr_P 93 = some (yX7_restBits, cX7_restBits, 14, some .int, 2, 1, 7) := rfl
theorem moX7_restBits : sm_mok (yX7_restBits, cX7_restBits, 14, some .int, 2, 1, 7) := mk1 (T := TX7) (N := 17) (by decide +kernel) rfl pw_720 pw_634 pw_721 pw_722 rfl
theorem pgX7_waited : pr_P 94 = some (yX7_waited, cX7_waited, 3, some .int, 1, 1, 7) := rfl
theorem moX7_waited : sm_mok (yX7_waited, cX7_waited, 3, some .int, 1, 1, 7) := mk1 (T := TX7) (N := 17) (by decide +kernel) rfl pw_723 pw_634 pw_724 pw_725 rfl
theorem pgX7_needle : pr_P 95 = some (yX7_needle, cX7_needle, 6, some .int, 1, 1, 7) := rfl
theorem moX7_needle : sm_mok (yX7_needle, cX7_needle, 6, some .int, 1, 1, 7) := mk1 (T := TX7) (N := 17) (by decide +kernel) rfl pw_726 pw_634 pw_727 pw_728 rfl
theorem pgX7_most : pr_P 96 = some (yX7_most, cX7_most, 3, some .int, 0, 1, 7) := rfl
theorem moX7_most : sm_mok (yX7_most, cX7_most, 3, some .int, 0, 1, 7) := mk1 (T := TX7) (N := 17) (by decide +kernel) rfl pw_729 pw_634 pw_730 pw_731 rfl
theorem pgX7_reaches : pr_P 97 = some (yX7_reaches, cX7_reaches, 4, some .int, 2, 1, 7) := rfl
theorem moX7_reaches : sm_mok (yX7_reaches, cX7_reaches, 4, some .int, 2, 1, 7) := mk1 (T := TX7) (N := 17) (by decide +kernel) rfl pw_732 pw_634 pw_733 pw_734 rfl
theorem pgX7_bestBit : pr_P 98 = some (yX7_bestBit, cX7_bestBit, 7, some .int, 1, 1, 7) := rfl
theorem moX7_bestBit : sm_mok (yX7_bestBit, cX7_bestBit, 7, some .int, 1, 1, 7) := mk1 (T := TX7) (N := 17) (by decide +kernel) rfl pw_735 pw_634 pw_736 pw_737 rfl
theorem pgX7_rule : pr_P 99 = some (yX7_rule, cX7_rule, 4, some .int, 3, 1, 7) := rfl
theorem moX7_rule : sm_mok (yX7_rule, cX7_rule, 4, some .int, 3, 1, 7) := mk1 (T := TX7) (N := 17) (by decide +kernel) rfl pw_738 pw_634 pw_739 pw_740 rfl
theorem pgX7_tryRule : pr_P 100 = some (yX7_tryRule, cX7_tryRule, 3, none, 2, 1, 7) := rfl
theorem moX7_tryRule : sm_mok (yX7_tryRule, cX7_tryRule, 3, none, 2, 1, 7) := mk1 (T := TX7) (N := 17) (by decide +kernel) rfl pw_741 pw_634 pw_742 pw_743 rfl
theorem pgX7_bestRule : pr_P 101 = some (yX7_bestRule, cX7_bestRule, 9, some .int, 2, 1, 7) := rfl
theorem moX7_bestRule : sm_mok (yX7_bestRule, cX7_bestRule, 9, some .int, 2, 1, 7) := mk1 (T := TX7) (N := 17) (by decide +kernel) rfl pw_744 pw_634 pw_745 pw_746 rfl
theorem pgX7_gets : pr_P 102 = some (yX7_gets, cX7_gets, 3, some .int, 2, 1, 7) := rfl
theorem moX7_gets : sm_mok (yX7_gets, cX7_gets, 3, some .int, 2, 1, 7) := mk1 (T := TX7) (N := 17) (by decide +kernel) rfl pw_747 pw_634 pw_748 pw_749 rfl
theorem pgX7_tames : pr_P 103 = some (yX7_tames, cX7_tames, 3, some .int, 1, 1, 7) := rfl
theorem moX7_tames : sm_mok (yX7_tames, cX7_tames, 3, some .int, 1, 1, 7) := mk1 (T := TX7) (N := 17) (by decide +kernel) rfl pw_750 pw_634 pw_751 pw_752 rfl
theorem pgX7_tape : pr_P 104 = some (yX7_tape, cX7_tape, 4, some .int, 3, 1, 7) := rfl
theorem moX7_tape : sm_mok (yX7_tape, cX7_tape, 4, some .int, 3, 1, 7) := mk1 (T := TX7) (N := 17) (by decide +kernel) rfl pw_753 pw_634 pw_754 pw_755 rfl
theorem pgX7_strike : pr_P 105 = some (yX7_strike, cX7_strike, 2, some .int, 1, 1, 7) := rfl
theorem moX7_strike : sm_mok (yX7_strike, cX7_strike, 2, some .int, 1, 1, 7) := mk1 (T := TX7) (N := 17) (by decide +kernel) rfl pw_756 pw_634 pw_757 pw_758 rfl
theorem pgX7_known : pr_P 106 = some (yX7_known, cX7_known, 2, some .boolean, 1, 1, 7) := rfl
theorem moX7_known : sm_mok (yX7_known, cX7_known, 2, some .boolean, 1, 1, 7) := mk1 (T := TX7) (N := 17) (by decide +kernel) rfl pw_759 pw_634 pw_760 pw_761 rfl
theorem pgX7_threw : pr_P 107 = some (yX7_threw, cX7_threw, 4, some .int, 1, 1, 7) := rfl
theorem moX7_threw : sm_mok (yX7_threw, cX7_threw, 4, some .int, 1, 1, 7) := mk1 (T := TX7) (N := 17) (by decide +kernel) rfl pw_762 pw_634 pw_763 pw_764 rfl
theorem pgX7_wayFromText : pr_P 108 = some (yX7_wayFromText, cX7_wayFromText, 4, none, 2, 1, 7) := rfl
theorem moX7_wayFromText : sm_mok (yX7_wayFromText, cX7_wayFromText, 4, none, 2, 1, 7) := mk1 (T := TX7) (N := 17) (by decide +kernel) rfl pw_765 pw_634 pw_766 pw_767 rfl
theorem pgX7_chance : pr_P 109 = some (yX7_chance, cX7_chance, 6, some .int, 2, 1, 7) := rfl
theorem moX7_chance : sm_mok (yX7_chance, cX7_chance, 6, some .int, 2, 1, 7) := mk1 (T := TX7) (N := 17) (by decide +kernel) rfl pw_768 pw_634 pw_769 pw_770 rfl
theorem pgX7_tried : pr_P 110 = some (yX7_tried, cX7_tried, 4, some .int, 3, 1, 7) := rfl
theorem moX7_tried : sm_mok (yX7_tried, cX7_tried, 4, some .int, 3, 1, 7) := mk1 (T := TX7) (N := 17) (by decide +kernel) rfl pw_771 pw_634 pw_772 pw_773 rfl
theorem pgX7_undo : pr_P 111 = some (yX7_undo, cX7_undo, 1, some .int, 0, 1, 7) := rfl
theorem moX7_undo : sm_mok (yX7_undo, cX7_undo, 1, some .int, 0, 1, 7) := mk1 (T := TX7) (N := 17) (by decide +kernel) rfl pw_774 pw_634 pw_775 pw_776 rfl
theorem pgX7_keep : pr_P 112 = some (yX7_keep, cX7_keep, 1, some .int, 0, 1, 7) := rfl
theorem moX7_keep : sm_mok (yX7_keep, cX7_keep, 1, some .int, 0, 1, 7) := mk1 (T := TX7) (N := 17) (by decide +kernel) rfl pw_777 pw_634 pw_778 pw_779 rfl
theorem pgX7_back : pr_P 113 = some (yX7_back, cX7_back, 1, some .int, 0, 1, 7) := rfl
theorem moX7_back : sm_mok (yX7_back, cX7_back, 1, some .int, 0, 1, 7) := mk1 (T := TX7) (N := 17) (by decide +kernel) rfl pw_780 pw_634 pw_781 pw_782 rfl
theorem pgX7_count : pr_P 114 = some (yX7_count, cX7_count, 2, some .int, 1, 1, 7) := rfl
theorem moX7_count : sm_mok (yX7_count, cX7_count, 2, some .int, 1, 1, 7) := mk1 (T := TX7) (N := 17) (by decide +kernel) rfl pw_783 pw_634 pw_784 pw_785 rfl
theorem pgX8_init : pr_P 115 = some (yX8_init, cX8_init, 1, none, 0, 2, 8) := rfl
theorem moX8_init : sm_mok (yX8_init, cX8_init, 1, none, 0, 2, 8) := mk2 (by decide +kernel) rfl pw_786 pw_787 pw_788 rfl rfl
theorem pgX8_feed : pr_P 116 = some (yX8_feed, cX8_feed, 8, some .int, 5, 1, 8) := rfl
theorem moX8_feed : sm_mok (yX8_feed, cX8_feed, 8, some .int, 5, 1, 8) := mk1 (T := TX8) (N := 84) (by decide +kernel) rfl pw_789 pw_787 pw_790 pw_791 rfl
theorem pgX8_isIn : pr_P 117 = some (yX8_isIn, cX8_isIn, 3, some .boolean, 3, 0, 8) := rfl
theorem moX8_isIn : sm_mok (yX8_isIn, cX8_isIn, 3, some .boolean, 3, 0, 8) := mk0 (by decide +kernel) rfl pw_792 pw_787 pw_793
theorem pgX8_wrong : pr_P 118 = some (yX8_wrong, cX8_wrong, 2, some .boolean, 1, 1, 8) := rfl
theorem moX8_wrong : sm_mok (yX8_wrong, cX8_wrong, 2, some .boolean, 1, 1, 8) := mk1 (T := TX8) (N := 84) (by decide +kernel) rfl pw_794 pw_787 pw_795 pw_796 rfl
theorem pgX8_wordAt : pr_P 119 = some (yX8_wordAt, cX8_wordAt, 8, some .int, 2, 1, 8) := rfl
theorem moX8_wordAt : sm_mok (yX8_wordAt, cX8_wordAt, 8, some .int, 2, 1, 8) := mk1 (T := TX8) (N := 84) (by decide +kernel) rfl pw_797 pw_787 pw_798 pw_799 rfl
theorem pgX8_isSmall : pr_P 120 = some (yX8_isSmall, cX8_isSmall, 2, some .boolean, 1, 1, 8) := rfl
theorem moX8_isSmall : sm_mok (yX8_isSmall, cX8_isSmall, 2, some .boolean, 1, 1, 8) := mk1 (T := TX8) (N := 84) (by decide +kernel) rfl pw_800 pw_787 pw_801 pw_802 rfl
theorem pgX8_isDigit : pr_P 121 = some (yX8_isDigit, cX8_isDigit, 2, some .boolean, 1, 1, 8) := rfl
theorem moX8_isDigit : sm_mok (yX8_isDigit, cX8_isDigit, 2, some .boolean, 1, 1, 8) := mk1 (T := TX8) (N := 84) (by decide +kernel) rfl pw_803 pw_787 pw_804 pw_805 rfl
theorem pgX8_token : pr_P 122 = some (yX8_token, cX8_token, 1, none, 0, 1, 8) := rfl
theorem moX8_token : sm_mok (yX8_token, cX8_token, 1, none, 0, 1, 8) := mk1 (T := TX8) (N := 84) (by decide +kernel) rfl pw_806 pw_787 pw_807 pw_808 rfl
theorem pgX8_signToken : pr_P 123 = some (yX8_signToken, cX8_signToken, 4, none, 0, 1, 8) := rfl
theorem moX8_signToken : sm_mok (yX8_signToken, cX8_signToken, 4, none, 0, 1, 8) := mk1 (T := TX8) (N := 84) (by decide +kernel) rfl pw_809 pw_787 pw_810 pw_811 rfl
theorem pgX8_packed : pr_P 124 = some (yX8_packed, cX8_packed, 5, some .int, 2, 1, 8) := rfl
theorem moX8_packed : sm_mok (yX8_packed, cX8_packed, 5, some .int, 2, 1, 8) := mk1 (T := TX8) (N := 84) (by decide +kernel) rfl pw_812 pw_787 pw_813 pw_814 rfl
theorem pgX8_isKey : pr_P 125 = some (yX8_isKey, cX8_isKey, 2, some .boolean, 1, 1, 8) := rfl
theorem moX8_isKey : sm_mok (yX8_isKey, cX8_isKey, 2, some .boolean, 1, 1, 8) := mk1 (T := TX8) (N := 84) (by decide +kernel) rfl pw_815 pw_787 pw_816 pw_817 rfl
theorem pgX8_isSign : pr_P 126 = some (yX8_isSign, cX8_isSign, 2, some .boolean, 1, 1, 8) := rfl
theorem moX8_isSign : sm_mok (yX8_isSign, cX8_isSign, 2, some .boolean, 1, 1, 8) := mk1 (T := TX8) (N := 84) (by decide +kernel) rfl pw_818 pw_787 pw_819 pw_820 rfl
theorem pgX8_number : pr_P 127 = some (yX8_number, cX8_number, 3, some .boolean, 2, 1, 8) := rfl
theorem moX8_number : sm_mok (yX8_number, cX8_number, 3, some .boolean, 2, 1, 8) := mk1 (T := TX8) (N := 84) (by decide +kernel) rfl pw_821 pw_787 pw_822 pw_823 rfl
theorem pgX8_plain : pr_P 128 = some (yX8_plain, cX8_plain, 2, none, 0, 1, 8) := rfl
theorem moX8_plain : sm_mok (yX8_plain, cX8_plain, 2, none, 0, 1, 8) := mk1 (T := TX8) (N := 84) (by decide +kernel) rfl pw_824 pw_787 pw_825 pw_826 rfl
theorem pgX8_copies : pr_P 129 = some (yX8_copies, cX8_copies, 3, none, 2, 0, 8) := rfl
theorem moX8_copies : sm_mok (yX8_copies, cX8_copies, 3, none, 2, 0, 8) := mk0 (by decide +kernel) rfl pw_827 pw_787 pw_828
theorem pgX8_keepText : pr_P 130 = some (yX8_keepText, cX8_keepText, 2, none, 0, 1, 8) := rfl
theorem moX8_keepText : sm_mok (yX8_keepText, cX8_keepText, 2, none, 0, 1, 8) := mk1 (T := TX8) (N := 84) (by decide +kernel) rfl pw_829 pw_787 pw_830 pw_831 rfl
theorem pgX8_find : pr_P 131 = some (yX8_find, cX8_find, 5, some .int, 4, 0, 8) := rfl
theorem moX8_find : sm_mok (yX8_find, cX8_find, 5, some .int, 4, 0, 8) := mk0 (by decide +kernel) rfl pw_832 pw_787 pw_833
theorem pgX8_grooveLine : pr_P 132 = some (yX8_grooveLine, cX8_grooveLine, 1, some .boolean, 0, 1, 8) := rfl
theorem moX8_grooveLine : sm_mok (yX8_grooveLine, cX8_grooveLine, 1, some .boolean, 0, 1, 8) := mk1 (T := TX8) (N := 84) (by decide +kernel) rfl pw_834 pw_787 pw_835 pw_836 rfl
theorem pgX8_scratLine : pr_P 133 = some (yX8_scratLine, cX8_scratLine, 3, some .boolean, 0, 1, 8) := rfl
theorem moX8_scratLine : sm_mok (yX8_scratLine, cX8_scratLine, 3, some .boolean, 0, 1, 8) := mk1 (T := TX8) (N := 84) (by decide +kernel) rfl pw_837 pw_787 pw_838 pw_839 rfl
theorem pgX8_guestLine : pr_P 134 = some (yX8_guestLine, cX8_guestLine, 2, some .boolean, 0, 1, 8) := rfl
theorem moX8_guestLine : sm_mok (yX8_guestLine, cX8_guestLine, 2, some .boolean, 0, 1, 8) := mk1 (T := TX8) (N := 84) (by decide +kernel) rfl pw_840 pw_787 pw_841 pw_842 rfl
theorem pgX8_onceLine : pr_P 135 = some (yX8_onceLine, cX8_onceLine, 3, some .boolean, 2, 1, 8) := rfl
theorem moX8_onceLine : sm_mok (yX8_onceLine, cX8_onceLine, 3, some .boolean, 2, 1, 8) := mk1 (T := TX8) (N := 84) (by decide +kernel) rfl pw_843 pw_787 pw_844 pw_845 rfl
theorem pgX8_lineRead : pr_P 136 = some (yX8_lineRead, cX8_lineRead, 3, some .boolean, 0, 1, 8) := rfl
theorem moX8_lineRead : sm_mok (yX8_lineRead, cX8_lineRead, 3, some .boolean, 0, 1, 8) := mk1 (T := TX8) (N := 84) (by decide +kernel) rfl pw_846 pw_787 pw_847 pw_848 rfl
theorem pgX8_text : pr_P 137 = some (yX8_text, cX8_text, 3, some .int, 1, 1, 8) := rfl
theorem moX8_text : sm_mok (yX8_text, cX8_text, 3, some .int, 1, 1, 8) := mk1 (T := TX8) (N := 84) (by decide +kernel) rfl pw_849 pw_787 pw_850 pw_851 rfl
theorem pgX8_fault : pr_P 138 = some (yX8_fault, cX8_fault, 2, some .int, 1, 1, 8) := rfl
theorem moX8_fault : sm_mok (yX8_fault, cX8_fault, 2, some .int, 1, 1, 8) := mk1 (T := TX8) (N := 84) (by decide +kernel) rfl pw_852 pw_787 pw_853 pw_854 rfl
theorem pgX8_named : pr_P 139 = some (yX8_named, cX8_named, 2, some .int, 1, 1, 8) := rfl
theorem moX8_named : sm_mok (yX8_named, cX8_named, 2, some .int, 1, 1, 8) := mk1 (T := TX8) (N := 84) (by decide +kernel) rfl pw_855 pw_787 pw_856 pw_857 rfl
theorem pgX8_rank : pr_P 140 = some (yX8_rank, cX8_rank, 1, some .int, 1, 0, 8) := rfl
theorem moX8_rank : sm_mok (yX8_rank, cX8_rank, 1, some .int, 1, 0, 8) := mk0 (by decide +kernel) rfl pw_858 pw_787 pw_859
theorem pgX8_grown : pr_P 141 = some (yX8_grown, cX8_grown, 4, none, 3, 1, 8) := rfl
theorem moX8_grown : sm_mok (yX8_grown, cX8_grown, 4, none, 3, 1, 8) := mk1 (T := TX8) (N := 84) (by decide +kernel) rfl pw_860 pw_787 pw_861 pw_862 rfl
theorem pgX8_dropHeld : pr_P 142 = some (yX8_dropHeld, cX8_dropHeld, 1, some .int, 0, 1, 8) := rfl
theorem moX8_dropHeld : sm_mok (yX8_dropHeld, cX8_dropHeld, 1, some .int, 0, 1, 8) := mk1 (T := TX8) (N := 84) (by decide +kernel) rfl pw_863 pw_787 pw_864 pw_865 rfl
theorem pgX8_bind : pr_P 143 = some (yX8_bind, cX8_bind, 5, none, 1, 1, 8) := rfl
theorem moX8_bind : sm_mok (yX8_bind, cX8_bind, 5, none, 1, 1, 8) := mk1 (T := TX8) (N := 84) (by decide +kernel) rfl pw_866 pw_787 pw_867 pw_868 rfl
theorem pgX8_isCounted : pr_P 144 = some (yX8_isCounted, cX8_isCounted, 1, some .boolean, 0, 1, 8) := rfl
theorem moX8_isCounted : sm_mok (yX8_isCounted, cX8_isCounted, 1, some .boolean, 0, 1, 8) := mk1 (T := TX8) (N := 84) (by decide +kernel) rfl pw_869 pw_787 pw_870 pw_871 rfl
theorem pgX8_waitsFor : pr_P 145 = some (yX8_waitsFor, cX8_waitsFor, 2, none, 1, 1, 8) := rfl
theorem moX8_waitsFor : sm_mok (yX8_waitsFor, cX8_waitsFor, 2, none, 1, 1, 8) := mk1 (T := TX8) (N := 84) (by decide +kernel) rfl pw_872 pw_787 pw_873 pw_874 rfl
theorem pgX8_nameMet : pr_P 146 = some (yX8_nameMet, cX8_nameMet, 1, some .int, 0, 1, 8) := rfl
theorem moX8_nameMet : sm_mok (yX8_nameMet, cX8_nameMet, 1, some .int, 0, 1, 8) := mk1 (T := TX8) (N := 84) (by decide +kernel) rfl pw_875 pw_787 pw_876 pw_877 rfl
theorem pgX8_leafRead : pr_P 147 = some (yX8_leafRead, cX8_leafRead, 2, some .boolean, 0, 1, 8) := rfl
theorem moX8_leafRead : sm_mok (yX8_leafRead, cX8_leafRead, 2, some .boolean, 0, 1, 8) := mk1 (T := TX8) (N := 84) (by decide +kernel) rfl pw_878 pw_787 pw_879 pw_880 rfl
theorem pgX8_signs : pr_P 148 = some (yX8_signs, cX8_signs, 2, some .boolean, 0, 1, 8) := rfl
theorem moX8_signs : sm_mok (yX8_signs, cX8_signs, 2, some .boolean, 0, 1, 8) := mk1 (T := TX8) (N := 84) (by decide +kernel) rfl pw_881 pw_787 pw_882 pw_883 rfl
theorem pgX8_sumRead : pr_P 149 = some (yX8_sumRead, cX8_sumRead, 1, some .boolean, 0, 1, 8) := rfl
theorem moX8_sumRead : sm_mok (yX8_sumRead, cX8_sumRead, 1, some .boolean, 0, 1, 8) := mk1 (T := TX8) (N := 84) (by decide +kernel) rfl pw_884 pw_787 pw_885 pw_886 rfl
theorem pgX8_bounded : pr_P 150 = some (yX8_bounded, cX8_bounded, 3, some .long, 1, 1, 8) := rfl
theorem moX8_bounded : sm_mok (yX8_bounded, cX8_bounded, 3, some .long, 1, 1, 8) := mk1 (T := TX8) (N := 84) (by decide +kernel) rfl pw_887 pw_787 pw_888 pw_889 rfl
theorem pgX8_compares : pr_P 151 = some (yX8_compares, cX8_compares, 5, some .boolean, 3, 0, 8) := rfl
theorem moX8_compares : sm_mok (yX8_compares, cX8_compares, 5, some .boolean, 3, 0, 8) := mk0 (by decide +kernel) rfl pw_890 pw_787 pw_891
theorem pgX8_times : pr_P 152 = some (yX8_times, cX8_times, 6, some .long, 2, 1, 8) := rfl
theorem moX8_times : sm_mok (yX8_times, cX8_times, 6, some .long, 2, 1, 8) := mk1 (T := TX8) (N := 84) (by decide +kernel) rfl pw_892 pw_787 pw_893 pw_894 rfl
theorem pgX8_valueOf : pr_P 153 = some (yX8_valueOf, cX8_valueOf, 6, some .long, 1, 1, 8) := rfl
theorem moX8_valueOf : sm_mok (yX8_valueOf, cX8_valueOf, 6, some .long, 1, 1, 8) := mk1 (T := TX8) (N := 84) (by decide +kernel) rfl pw_895 pw_787 pw_896 pw_897 rfl
theorem pgX8_begin : pr_P 154 = some (yX8_begin, cX8_begin, 1, none, 0, 1, 8) := rfl
theorem moX8_begin : sm_mok (yX8_begin, cX8_begin, 1, none, 0, 1, 8) := mk1 (T := TX8) (N := 84) (by decide +kernel) rfl pw_898 pw_787 pw_899 pw_900 rfl
theorem pgX8_atFirst : pr_P 155 = some (yX8_atFirst, cX8_atFirst, 3, none, 1, 1, 8) := rfl
theorem moX8_atFirst : sm_mok (yX8_atFirst, cX8_atFirst, 3, none, 1, 1, 8) := mk1 (T := TX8) (N := 84) (by decide +kernel) rfl pw_901 pw_787 pw_902 pw_903 rfl
theorem pgX8_plainTried : pr_P 156 = some (yX8_plainTried, cX8_plainTried, 1, none, 0, 1, 8) := rfl
theorem moX8_plainTried : sm_mok (yX8_plainTried, cX8_plainTried, 1, none, 0, 1, 8) := mk1 (T := TX8) (N := 84) (by decide +kernel) rfl pw_904 pw_787 pw_905 pw_906 rfl
theorem pgX8_layTried : pr_P 157 = some (yX8_layTried, cX8_layTried, 2, none, 0, 1, 8) := rfl
theorem moX8_layTried : sm_mok (yX8_layTried, cX8_layTried, 2, none, 0, 1, 8) := mk1 (T := TX8) (N := 84) (by decide +kernel) rfl pw_907 pw_787 pw_908 pw_909 rfl
theorem pgX8_isGroove : pr_P 158 = some (yX8_isGroove, cX8_isGroove, 2, some .boolean, 1, 1, 8) := rfl
theorem moX8_isGroove : sm_mok (yX8_isGroove, cX8_isGroove, 2, some .boolean, 1, 1, 8) := mk1 (T := TX8) (N := 84) (by decide +kernel) rfl pw_910 pw_787 pw_911 pw_912 rfl
theorem pgX8_isScratch : pr_P 159 = some (yX8_isScratch, cX8_isScratch, 2, some .boolean, 1, 1, 8) := rfl
theorem moX8_isScratch : sm_mok (yX8_isScratch, cX8_isScratch, 2, some .boolean, 1, 1, 8) := mk1 (T := TX8) (N := 84) (by decide +kernel) rfl pw_913 pw_787 pw_914 pw_915 rfl
theorem pgX8_isGuest : pr_P 160 = some (yX8_isGuest, cX8_isGuest, 2, some .boolean, 1, 1, 8) := rfl
theorem moX8_isGuest : sm_mok (yX8_isGuest, cX8_isGuest, 2, some .boolean, 1, 1, 8) := mk1 (T := TX8) (N := 84) (by decide +kernel) rfl pw_916 pw_787 pw_917 pw_918 rfl
theorem pgX8_layNames : pr_P 161 = some (yX8_layNames, cX8_layNames, 6, none, 5, 1, 8) := rfl
theorem moX8_layNames : sm_mok (yX8_layNames, cX8_layNames, 6, none, 5, 1, 8) := mk1 (T := TX8) (N := 84) (by decide +kernel) rfl pw_919 pw_787 pw_920 pw_921 rfl
theorem pgX8_lawOf : pr_P 162 = some (yX8_lawOf, cX8_lawOf, 3, some .long, 1, 1, 8) := rfl
theorem moX8_lawOf : sm_mok (yX8_lawOf, cX8_lawOf, 3, some .long, 1, 1, 8) := mk1 (T := TX8) (N := 84) (by decide +kernel) rfl pw_922 pw_787 pw_923 pw_924 rfl
theorem pgX8_boundLaw : pr_P 163 = some (yX8_boundLaw, cX8_boundLaw, 6, some .int, 3, 1, 8) := rfl
theorem moX8_boundLaw : sm_mok (yX8_boundLaw, cX8_boundLaw, 6, some .int, 3, 1, 8) := mk1 (T := TX8) (N := 84) (by decide +kernel) rfl pw_925 pw_787 pw_926 pw_927 rfl
theorem pgX8_backOf : pr_P 164 = some (yX8_backOf, cX8_backOf, 4, some .int, 2, 1, 8) := rfl
theorem moX8_backOf : sm_mok (yX8_backOf, cX8_backOf, 4, some .int, 2, 1, 8) := mk1 (T := TX8) (N := 84) (by decide +kernel) rfl pw_928 pw_787 pw_929 pw_930 rfl
theorem pgX8_wearOf : pr_P 165 = some (yX8_wearOf, cX8_wearOf, 3, some .int, 2, 1, 8) := rfl
theorem moX8_wearOf : sm_mok (yX8_wearOf, cX8_wearOf, 3, some .int, 2, 1, 8) := mk1 (T := TX8) (N := 84) (by decide +kernel) rfl pw_931 pw_787 pw_932 pw_933 rfl
theorem pgX8_worthOf : pr_P 166 = some (yX8_worthOf, cX8_worthOf, 3, some .int, 2, 1, 8) := rfl
theorem moX8_worthOf : sm_mok (yX8_worthOf, cX8_worthOf, 3, some .int, 2, 1, 8) := mk1 (T := TX8) (N := 84) (by decide +kernel) rfl pw_934 pw_787 pw_935 pw_936 rfl
theorem pgX8_number1 : pr_P 167 = some (yX8_number1, cX8_number1, 2, some .int, 1, 1, 8) := rfl
theorem moX8_number1 : sm_mok (yX8_number1, cX8_number1, 2, some .int, 1, 1, 8) := mk1 (T := TX8) (N := 84) (by decide +kernel) rfl pw_937 pw_787 pw_938 pw_939 rfl
theorem pgX8_wayOf : pr_P 168 = some (yX8_wayOf, cX8_wayOf, 4, some .int, 2, 1, 8) := rfl
theorem moX8_wayOf : sm_mok (yX8_wayOf, cX8_wayOf, 4, some .int, 2, 1, 8) := mk1 (T := TX8) (N := 84) (by decide +kernel) rfl pw_940 pw_787 pw_941 pw_942 rfl
theorem pgX8_scratchIn : pr_P 169 = some (yX8_scratchIn, cX8_scratchIn, 3, some .int, 1, 1, 8) := rfl
theorem moX8_scratchIn : sm_mok (yX8_scratchIn, cX8_scratchIn, 3, some .int, 1, 1, 8) := mk1 (T := TX8) (N := 84) (by decide +kernel) rfl pw_943 pw_787 pw_944 pw_945 rfl
theorem pgX8_puts : pr_P 170 = some (yX8_puts, cX8_puts, 3, none, 2, 1, 8) := rfl
theorem moX8_puts : sm_mok (yX8_puts, cX8_puts, 3, none, 2, 1, 8) := mk1 (T := TX8) (N := 84) (by decide +kernel) rfl pw_946 pw_787 pw_947 pw_948 rfl
theorem pgX8_passes : pr_P 171 = some (yX8_passes, cX8_passes, 9, none, 3, 1, 8) := rfl
theorem moX8_passes : sm_mok (yX8_passes, cX8_passes, 9, none, 3, 1, 8) := mk1 (T := TX8) (N := 84) (by decide +kernel) rfl pw_949 pw_787 pw_950 pw_951 rfl
theorem pgX8_nudges : pr_P 172 = some (yX8_nudges, cX8_nudges, 3, none, 2, 1, 8) := rfl
theorem moX8_nudges : sm_mok (yX8_nudges, cX8_nudges, 3, none, 2, 1, 8) := mk1 (T := TX8) (N := 84) (by decide +kernel) rfl pw_952 pw_787 pw_953 pw_954 rfl
theorem pgX8_guestsRise : pr_P 173 = some (yX8_guestsRise, cX8_guestsRise, 3, none, 1, 1, 8) := rfl
theorem moX8_guestsRise : sm_mok (yX8_guestsRise, cX8_guestsRise, 3, none, 1, 1, 8) := mk1 (T := TX8) (N := 84) (by decide +kernel) rfl pw_955 pw_787 pw_956 pw_957 rfl
theorem pgX8_playsOne : pr_P 174 = some (yX8_playsOne, cX8_playsOne, 5, none, 1, 1, 8) := rfl
theorem moX8_playsOne : sm_mok (yX8_playsOne, cX8_playsOne, 5, none, 1, 1, 8) := mk1 (T := TX8) (N := 84) (by decide +kernel) rfl pw_958 pw_787 pw_959 pw_960 rfl
theorem pgX8_fails : pr_P 175 = some (yX8_fails, cX8_fails, 2, some .int, 1, 1, 8) := rfl
theorem moX8_fails : sm_mok (yX8_fails, cX8_fails, 2, some .int, 1, 1, 8) := mk1 (T := TX8) (N := 84) (by decide +kernel) rfl pw_961 pw_787 pw_962 pw_963 rfl
theorem pgX8_groove : pr_P 176 = some (yX8_groove, cX8_groove, 3, some .int, 2, 1, 8) := rfl
theorem moX8_groove : sm_mok (yX8_groove, cX8_groove, 3, some .int, 2, 1, 8) := mk1 (T := TX8) (N := 84) (by decide +kernel) rfl pw_964 pw_787 pw_965 pw_966 rfl
theorem pgX8_scratch : pr_P 177 = some (yX8_scratch, cX8_scratch, 3, some .int, 2, 1, 8) := rfl
theorem moX8_scratch : sm_mok (yX8_scratch, cX8_scratch, 3, some .int, 2, 1, 8) := mk1 (T := TX8) (N := 84) (by decide +kernel) rfl pw_967 pw_787 pw_968 pw_969 rfl
theorem pgX8_guest : pr_P 178 = some (yX8_guest, cX8_guest, 3, some .int, 2, 1, 8) := rfl
theorem moX8_guest : sm_mok (yX8_guest, cX8_guest, 3, some .int, 2, 1, 8) := mk1 (T := TX8) (N := 84) (by decide +kernel) rfl pw_970 pw_787 pw_971 pw_972 rfl
theorem pgX8_law : pr_P 179 = some (yX8_law, cX8_law, 5, some .long, 2, 1, 8) := rfl
theorem moX8_law : sm_mok (yX8_law, cX8_law, 5, some .long, 2, 1, 8) := mk1 (T := TX8) (N := 84) (by decide +kernel) rfl pw_973 pw_787 pw_974 pw_975 rfl
theorem pgX8_weigh : pr_P 180 = some (yX8_weigh, cX8_weigh, 2, some .boolean, 1, 1, 8) := rfl
theorem moX8_weigh : sm_mok (yX8_weigh, cX8_weigh, 2, some .boolean, 1, 1, 8) := mk1 (T := TX8) (N := 84) (by decide +kernel) rfl pw_976 pw_787 pw_977 pw_978 rfl
theorem pgX8_nudge : pr_P 181 = some (yX8_nudge, cX8_nudge, 2, some .int, 1, 1, 8) := rfl
theorem moX8_nudge : sm_mok (yX8_nudge, cX8_nudge, 2, some .int, 1, 1, 8) := mk1 (T := TX8) (N := 84) (by decide +kernel) rfl pw_979 pw_787 pw_980 pw_981 rfl
theorem pgX8_anew : pr_P 182 = some (yX8_anew, cX8_anew, 1, some .boolean, 0, 1, 8) := rfl
theorem moX8_anew : sm_mok (yX8_anew, cX8_anew, 1, some .boolean, 0, 1, 8) := mk1 (T := TX8) (N := 84) (by decide +kernel) rfl pw_982 pw_787 pw_983 pw_984 rfl
theorem pgX8_go : pr_P 183 = some (yX8_go, cX8_go, 3, some .int, 1, 1, 8) := rfl
theorem moX8_go : sm_mok (yX8_go, cX8_go, 3, some .int, 1, 1, 8) := mk1 (T := TX8) (N := 84) (by decide +kernel) rfl pw_985 pw_787 pw_986 pw_987 rfl
theorem pgX8_out : pr_P 184 = some (yX8_out, cX8_out, 4, some .int, 2, 1, 8) := rfl
theorem moX8_out : sm_mok (yX8_out, cX8_out, 4, some .int, 2, 1, 8) := mk1 (T := TX8) (N := 84) (by decide +kernel) rfl pw_988 pw_787 pw_989 pw_990 rfl
theorem pgX8_loop : pr_P 185 = some (yX8_loop, cX8_loop, 3, some .int, 0, 1, 8) := rfl
theorem moX8_loop : sm_mok (yX8_loop, cX8_loop, 3, some .int, 0, 1, 8) := mk1 (T := TX8) (N := 84) (by decide +kernel) rfl pw_991 pw_787 pw_992 pw_993 rfl
theorem pgX8_powerOf : pr_P 186 = some (yX8_powerOf, cX8_powerOf, 4, some .int, 2, 0, 8) := rfl
theorem moX8_powerOf : sm_mok (yX8_powerOf, cX8_powerOf, 4, some .int, 2, 0, 8) := mk0 (by decide +kernel) rfl pw_994 pw_787 pw_995
theorem pgX8_likely : pr_P 187 = some (yX8_likely, cX8_likely, 14, some .long, 3, 1, 8) := rfl
theorem moX8_likely : sm_mok (yX8_likely, cX8_likely, 14, some .long, 3, 1, 8) := mk1 (T := TX8) (N := 84) (by decide +kernel) rfl pw_996 pw_787 pw_997 pw_998 rfl
theorem pgX8_outBy : pr_P 188 = some (yX8_outBy, cX8_outBy, 3, some .int, 1, 1, 8) := rfl
theorem moX8_outBy : sm_mok (yX8_outBy, cX8_outBy, 3, some .int, 1, 1, 8) := mk1 (T := TX8) (N := 84) (by decide +kernel) rfl pw_999 pw_787 pw_1000 pw_1001 rfl
theorem pgX8_light : pr_P 189 = some (yX8_light, cX8_light, 6, some .int, 1, 1, 8) := rfl
theorem moX8_light : sm_mok (yX8_light, cX8_light, 6, some .int, 1, 1, 8) := mk1 (T := TX8) (N := 84) (by decide +kernel) rfl pw_1002 pw_787 pw_1003 pw_1004 rfl
theorem pgX8_when : pr_P 190 = some (yX8_when, cX8_when, 7, some .int, 2, 1, 8) := rfl
theorem moX8_when : sm_mok (yX8_when, cX8_when, 7, some .int, 2, 1, 8) := mk1 (T := TX8) (N := 84) (by decide +kernel) rfl pw_1005 pw_787 pw_1006 pw_1007 rfl
theorem pgX8_plays : pr_P 191 = some (yX8_plays, cX8_plays, 4, some .int, 0, 1, 8) := rfl
theorem moX8_plays : sm_mok (yX8_plays, cX8_plays, 4, some .int, 0, 1, 8) := mk1 (T := TX8) (N := 84) (by decide +kernel) rfl pw_1008 pw_787 pw_1009 pw_1010 rfl
theorem pgX8_missed : pr_P 192 = some (yX8_missed, cX8_missed, 4, some .int, 1, 1, 8) := rfl
theorem moX8_missed : sm_mok (yX8_missed, cX8_missed, 4, some .int, 1, 1, 8) := mk1 (T := TX8) (N := 84) (by decide +kernel) rfl pw_1011 pw_787 pw_1012 pw_1013 rfl
theorem pgX8_restAt : pr_P 193 = some (yX8_restAt, cX8_restAt, 8, some .int, 3, 1, 8) := rfl
theorem moX8_restAt : sm_mok (yX8_restAt, cX8_restAt, 8, some .int, 3, 1, 8) := mk1 (T := TX8) (N := 84) (by decide +kernel) rfl pw_1014 pw_787 pw_1015 pw_1016 rfl
theorem pgX8_areTwo : pr_P 194 = some (yX8_areTwo, cX8_areTwo, 3, some .boolean, 2, 1, 8) := rfl
theorem moX8_areTwo : sm_mok (yX8_areTwo, cX8_areTwo, 3, some .boolean, 2, 1, 8) := mk1 (T := TX8) (N := 84) (by decide +kernel) rfl pw_1017 pw_787 pw_1018 pw_1019 rfl
theorem pgX8_rests : pr_P 195 = some (yX8_rests, cX8_rests, 3, some .int, 2, 1, 8) := rfl
theorem moX8_rests : sm_mok (yX8_rests, cX8_rests, 3, some .int, 2, 1, 8) := mk1 (T := TX8) (N := 84) (by decide +kernel) rfl pw_1020 pw_787 pw_1021 pw_1022 rfl
theorem pgX8_rest : pr_P 196 = some (yX8_rest, cX8_rest, 4, some .int, 3, 1, 8) := rfl
theorem moX8_rest : sm_mok (yX8_rest, cX8_rest, 4, some .int, 3, 1, 8) := mk1 (T := TX8) (N := 84) (by decide +kernel) rfl pw_1023 pw_787 pw_1024 pw_1025 rfl
theorem pgX8_needle : pr_P 197 = some (yX8_needle, cX8_needle, 6, some .int, 1, 1, 8) := rfl
theorem moX8_needle : sm_mok (yX8_needle, cX8_needle, 6, some .int, 1, 1, 8) := mk1 (T := TX8) (N := 84) (by decide +kernel) rfl pw_1026 pw_787 pw_1027 pw_1028 rfl
theorem pgX8_most : pr_P 198 = some (yX8_most, cX8_most, 3, some .int, 0, 1, 8) := rfl
theorem moX8_most : sm_mok (yX8_most, cX8_most, 3, some .int, 0, 1, 8) := mk1 (T := TX8) (N := 84) (by decide +kernel) rfl pw_1029 pw_787 pw_1030 pw_1031 rfl
theorem pgX8_reaches : pr_P 199 = some (yX8_reaches, cX8_reaches, 4, some .int, 2, 1, 8) := rfl
theorem moX8_reaches : sm_mok (yX8_reaches, cX8_reaches, 4, some .int, 2, 1, 8) := mk1 (T := TX8) (N := 84) (by decide +kernel) rfl pw_1032 pw_787 pw_1033 pw_1034 rfl
theorem pgX8_bestBit : pr_P 200 = some (yX8_bestBit, cX8_bestBit, 7, some .int, 1, 1, 8) := rfl
theorem moX8_bestBit : sm_mok (yX8_bestBit, cX8_bestBit, 7, some .int, 1, 1, 8) := mk1 (T := TX8) (N := 84) (by decide +kernel) rfl pw_1035 pw_787 pw_1036 pw_1037 rfl
theorem pgX8_heardBy : pr_P 201 = some (yX8_heardBy, cX8_heardBy, 5, some .int, 3, 1, 8) := rfl
theorem moX8_heardBy : sm_mok (yX8_heardBy, cX8_heardBy, 5, some .int, 3, 1, 8) := mk1 (T := TX8) (N := 84) (by decide +kernel) rfl pw_1038 pw_787 pw_1039 pw_1040 rfl
theorem pgX8_rule : pr_P 202 = some (yX8_rule, cX8_rule, 4, some .int, 3, 1, 8) := rfl
theorem moX8_rule : sm_mok (yX8_rule, cX8_rule, 4, some .int, 3, 1, 8) := mk1 (T := TX8) (N := 84) (by decide +kernel) rfl pw_1041 pw_787 pw_1042 pw_1043 rfl
theorem pgX8_bestRule : pr_P 203 = some (yX8_bestRule, cX8_bestRule, 9, some .int, 2, 1, 8) := rfl
theorem moX8_bestRule : sm_mok (yX8_bestRule, cX8_bestRule, 9, some .int, 2, 1, 8) := mk1 (T := TX8) (N := 84) (by decide +kernel) rfl pw_1044 pw_787 pw_1045 pw_1046 rfl
theorem pgX8_gets : pr_P 204 = some (yX8_gets, cX8_gets, 4, some .int, 2, 1, 8) := rfl
theorem moX8_gets : sm_mok (yX8_gets, cX8_gets, 4, some .int, 2, 1, 8) := mk1 (T := TX8) (N := 84) (by decide +kernel) rfl pw_1047 pw_787 pw_1048 pw_1049 rfl
theorem pgX8_tames : pr_P 205 = some (yX8_tames, cX8_tames, 4, some .int, 1, 1, 8) := rfl
theorem moX8_tames : sm_mok (yX8_tames, cX8_tames, 4, some .int, 1, 1, 8) := mk1 (T := TX8) (N := 84) (by decide +kernel) rfl pw_1050 pw_787 pw_1051 pw_1052 rfl
theorem pgX8_noted : pr_P 206 = some (yX8_noted, cX8_noted, 4, some .int, 3, 1, 8) := rfl
theorem moX8_noted : sm_mok (yX8_noted, cX8_noted, 4, some .int, 3, 1, 8) := mk1 (T := TX8) (N := 84) (by decide +kernel) rfl pw_1053 pw_787 pw_1054 pw_1055 rfl
theorem pgX8_tape : pr_P 207 = some (yX8_tape, cX8_tape, 4, some .int, 3, 1, 8) := rfl
theorem moX8_tape : sm_mok (yX8_tape, cX8_tape, 4, some .int, 3, 1, 8) := mk1 (T := TX8) (N := 84) (by decide +kernel) rfl pw_1056 pw_787 pw_1057 pw_1058 rfl
theorem pgX8_strike : pr_P 208 = some (yX8_strike, cX8_strike, 2, some .int, 1, 1, 8) := rfl
theorem moX8_strike : sm_mok (yX8_strike, cX8_strike, 2, some .int, 1, 1, 8) := mk1 (T := TX8) (N := 84) (by decide +kernel) rfl pw_1059 pw_787 pw_1060 pw_1061 rfl
theorem pgX8_known : pr_P 209 = some (yX8_known, cX8_known, 2, some .boolean, 1, 1, 8) := rfl
theorem moX8_known : sm_mok (yX8_known, cX8_known, 2, some .boolean, 1, 1, 8) := mk1 (T := TX8) (N := 84) (by decide +kernel) rfl pw_1062 pw_787 pw_1063 pw_1064 rfl
theorem pgX8_knownBy : pr_P 210 = some (yX8_knownBy, cX8_knownBy, 1, some .int, 0, 1, 8) := rfl
theorem moX8_knownBy : sm_mok (yX8_knownBy, cX8_knownBy, 1, some .int, 0, 1, 8) := mk1 (T := TX8) (N := 84) (by decide +kernel) rfl pw_1065 pw_787 pw_1066 pw_1067 rfl
theorem pgX8_isSo : pr_P 211 = some (yX8_isSo, cX8_isSo, 3, some .boolean, 1, 1, 8) := rfl
theorem moX8_isSo : sm_mok (yX8_isSo, cX8_isSo, 3, some .boolean, 1, 1, 8) := mk1 (T := TX8) (N := 84) (by decide +kernel) rfl pw_1068 pw_787 pw_1069 pw_1070 rfl
theorem pgX8_fits : pr_P 212 = some (yX8_fits, cX8_fits, 4, some .boolean, 2, 1, 8) := rfl
theorem moX8_fits : sm_mok (yX8_fits, cX8_fits, 4, some .boolean, 2, 1, 8) := mk1 (T := TX8) (N := 84) (by decide +kernel) rfl pw_1071 pw_787 pw_1072 pw_1073 rfl
theorem pgX8_threw : pr_P 213 = some (yX8_threw, cX8_threw, 4, some .int, 1, 1, 8) := rfl
theorem moX8_threw : sm_mok (yX8_threw, cX8_threw, 4, some .int, 1, 1, 8) := mk1 (T := TX8) (N := 84) (by decide +kernel) rfl pw_1074 pw_787 pw_1075 pw_1076 rfl
theorem pgX8_chance : pr_P 214 = some (yX8_chance, cX8_chance, 8, some .int, 2, 1, 8) := rfl
theorem moX8_chance : sm_mok (yX8_chance, cX8_chance, 8, some .int, 2, 1, 8) := mk1 (T := TX8) (N := 84) (by decide +kernel) rfl pw_1077 pw_787 pw_1078 pw_1079 rfl
theorem pgX8_tried : pr_P 215 = some (yX8_tried, cX8_tried, 5, some .int, 3, 1, 8) := rfl
theorem moX8_tried : sm_mok (yX8_tried, cX8_tried, 5, some .int, 3, 1, 8) := mk1 (T := TX8) (N := 84) (by decide +kernel) rfl pw_1080 pw_787 pw_1081 pw_1082 rfl
theorem pgX8_remember : pr_P 216 = some (yX8_remember, cX8_remember, 2, none, 0, 1, 8) := rfl
theorem moX8_remember : sm_mok (yX8_remember, cX8_remember, 2, none, 0, 1, 8) := mk1 (T := TX8) (N := 84) (by decide +kernel) rfl pw_1083 pw_787 pw_1084 pw_1085 rfl
theorem pgX8_undo : pr_P 217 = some (yX8_undo, cX8_undo, 1, some .int, 0, 1, 8) := rfl
theorem moX8_undo : sm_mok (yX8_undo, cX8_undo, 1, some .int, 0, 1, 8) := mk1 (T := TX8) (N := 84) (by decide +kernel) rfl pw_1086 pw_787 pw_1087 pw_1088 rfl
theorem pgX8_keep : pr_P 218 = some (yX8_keep, cX8_keep, 2, some .int, 0, 1, 8) := rfl
theorem moX8_keep : sm_mok (yX8_keep, cX8_keep, 2, some .int, 0, 1, 8) := mk1 (T := TX8) (N := 84) (by decide +kernel) rfl pw_1089 pw_787 pw_1090 pw_1091 rfl
theorem pgX8_back : pr_P 219 = some (yX8_back, cX8_back, 2, some .int, 0, 1, 8) := rfl
theorem moX8_back : sm_mok (yX8_back, cX8_back, 2, some .int, 0, 1, 8) := mk1 (T := TX8) (N := 84) (by decide +kernel) rfl pw_1092 pw_787 pw_1093 pw_1094 rfl
theorem pgX8_count : pr_P 220 = some (yX8_count, cX8_count, 2, some .int, 1, 1, 8) := rfl
theorem moX8_count : sm_mok (yX8_count, cX8_count, 2, some .int, 1, 1, 8) := mk1 (T := TX8) (N := 84) (by decide +kernel) rfl pw_1095 pw_787 pw_1096 pw_1097 rfl
theorem pgJ6_bitCount_0f7a4 : pr_P 221 = some (yJ6_bitCount_0f7a4, cJ6_bitCount_0f7a4, 1, some .int, 1, 0, 0) := rfl
theorem moJ6_bitCount_0f7a4 : sm_mok (yJ6_bitCount_0f7a4, cJ6_bitCount_0f7a4, 1, some .int, 1, 0, 0) := mk0 (by decide +kernel) rfl pw_1098 pw_1099 pw_1100
theorem pgX7_groove : pr_P 222 = some (yX7_groove, cX7_groove, 3, some .int, 2, 1, 7) := rfl
theorem moX7_groove : sm_mok (yX7_groove, cX7_groove, 3, some .int, 2, 1, 7) := mk1 (T := TX7) (N := 17) (by decide +kernel) rfl pw_1101 pw_634 pw_1102 pw_1103 rfl
end
