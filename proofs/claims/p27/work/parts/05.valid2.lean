theorem a_vh154 : a_vmh a_e154 = true := by decide +kernel
theorem a_vr154 : a_c154.all (a_vrow "WashAndDryModel" ((Option.some Jvm.ClassFile.FieldType.boolean)) prog_14_method_10_code) = true := by decide +kernel
theorem a_v154 : a_vmt a_e154 = true := a_vmk a_vh154 rfl rfl rfl rfl a_vr154
theorem a_vh155 : a_vmh a_e155 = true := by decide +kernel
theorem a_vr155 : a_c155.all (a_vrow "WashAndDryModel" ((Option.some Jvm.ClassFile.FieldType.boolean)) prog_14_method_11_code) = true := by decide +kernel
theorem a_v155 : a_vmt a_e155 = true := a_vmk a_vh155 rfl rfl rfl rfl a_vr155
theorem a_vh156 : a_vmh a_e156 = true := by decide +kernel
theorem a_vr156 : a_c156.all (a_vrow "WashAndDryModel" ((Option.some Jvm.ClassFile.FieldType.int)) prog_14_method_12_code) = true := by decide +kernel
theorem a_v156 : a_vmt a_e156 = true := a_vmk a_vh156 rfl rfl rfl rfl a_vr156
theorem a_vh157 : a_vmh a_e157 = true := by decide +kernel
theorem a_vr157 : a_c157.all (a_vrow "WashAndDryModel" ((Option.some Jvm.ClassFile.FieldType.int)) prog_14_method_13_code) = true := by decide +kernel
theorem a_v157 : a_vmt a_e157 = true := a_vmk a_vh157 rfl rfl rfl rfl a_vr157
theorem a_vh158 : a_vmh a_e158 = true := by decide +kernel
theorem a_vr158 : a_c158.all (a_vrow "WashAndDryModel" ((Option.some Jvm.ClassFile.FieldType.int)) prog_14_method_14_code) = true := by decide +kernel
theorem a_v158 : a_vmt a_e158 = true := a_vmk a_vh158 rfl rfl rfl rfl a_vr158
theorem a_vh159 : a_vmh a_e159 = true := by decide +kernel
theorem a_vr159 : a_c159.all (a_vrow "WashAndDryModel" ((Option.some Jvm.ClassFile.FieldType.boolean)) prog_14_method_15_code) = true := by decide +kernel
theorem a_v159 : a_vmt a_e159 = true := a_vmk a_vh159 rfl rfl rfl rfl a_vr159
theorem a_vh160 : a_vmh a_e160 = true := by decide +kernel
theorem a_vr160 : a_c160.all (a_vrow "WashAndDryModel" ((Option.some Jvm.ClassFile.FieldType.boolean)) prog_14_method_16_code) = true := by decide +kernel
theorem a_v160 : a_vmt a_e160 = true := a_vmk a_vh160 rfl rfl rfl rfl a_vr160
theorem a_vh161 : a_vmh a_e161 = true := by decide +kernel
theorem a_vr161 : a_c161.all (a_vrow "WashAndDryModel" ((Option.some Jvm.ClassFile.FieldType.boolean)) prog_14_method_17_code) = true := by decide +kernel
theorem a_v161 : a_vmt a_e161 = true := a_vmk a_vh161 rfl rfl rfl rfl a_vr161
theorem a_vh162 : a_vmh a_e162 = true := by decide +kernel
theorem a_vr162 : a_c162.all (a_vrow "WashAndDryModel" ((Option.some Jvm.ClassFile.FieldType.boolean)) prog_14_method_18_code) = true := by decide +kernel
theorem a_v162 : a_vmt a_e162 = true := a_vmk a_vh162 rfl rfl rfl rfl a_vr162
theorem a_vh163 : a_vmh a_e163 = true := by decide +kernel
theorem a_vr163 : a_c163.all (a_vrow "WashAndDryModel" ((Option.some Jvm.ClassFile.FieldType.boolean)) prog_14_method_19_code) = true := by decide +kernel
theorem a_v163 : a_vmt a_e163 = true := a_vmk a_vh163 rfl rfl rfl rfl a_vr163
theorem a_vh164 : a_vmh a_e164 = true := by decide +kernel
theorem a_vr164 : a_c164.all (a_vrow "WashAndDryModel" ((Option.some Jvm.ClassFile.FieldType.boolean)) prog_14_method_20_code) = true := by decide +kernel
theorem a_v164 : a_vmt a_e164 = true := a_vmk a_vh164 rfl rfl rfl rfl a_vr164
theorem a_vh165 : a_vmh a_e165 = true := by decide +kernel
theorem a_vr165_0 : (List.take 100 a_c165).all (a_vrow "WashAndDryModel" ((Option.some Jvm.ClassFile.FieldType.boolean)) prog_14_method_21_code) = true := by decide +kernel
theorem a_vr165_1 : (List.drop 100 a_c165).all (a_vrow "WashAndDryModel" ((Option.some Jvm.ClassFile.FieldType.boolean)) prog_14_method_21_code) = true := by decide +kernel
theorem a_vr165 : a_c165.all (a_vrow "WashAndDryModel" ((Option.some Jvm.ClassFile.FieldType.boolean)) prog_14_method_21_code) = true := a_vspl 100 a_vr165_0 (a_vr165_1)
theorem a_v165 : a_vmt a_e165 = true := a_vmk a_vh165 rfl rfl rfl rfl a_vr165
theorem a_vh166 : a_vmh a_e166 = true := by decide +kernel
theorem a_vr166 : a_c166.all (a_vrow "WashAndDryModel" ((Option.some Jvm.ClassFile.FieldType.boolean)) prog_14_method_22_code) = true := by decide +kernel
theorem a_v166 : a_vmt a_e166 = true := a_vmk a_vh166 rfl rfl rfl rfl a_vr166
theorem a_vh167 : a_vmh a_e167 = true := by decide +kernel
theorem a_vr167 : a_c167.all (a_vrow "WashAndDryModel" ((Option.some Jvm.ClassFile.FieldType.boolean)) prog_14_method_23_code) = true := by decide +kernel
theorem a_v167 : a_vmt a_e167 = true := a_vmk a_vh167 rfl rfl rfl rfl a_vr167
theorem a_vh168 : a_vmh a_e168 = true := by decide +kernel
theorem a_vr168 : a_c168.all (a_vrow "WashAndDryModel" ((Option.some Jvm.ClassFile.FieldType.int)) prog_14_method_24_code) = true := by decide +kernel
theorem a_v168 : a_vmt a_e168 = true := a_vmk a_vh168 rfl rfl rfl rfl a_vr168
theorem a_vh169 : a_vmh a_e169 = true := by decide +kernel
theorem a_vr169 : a_c169.all (a_vrow "WashAndDryModel" ((Option.none : Option Jvm.ClassFile.FieldType)) prog_14_method_25_code) = true := by decide +kernel
theorem a_v169 : a_vmt a_e169 = true := a_vmk a_vh169 rfl rfl rfl rfl a_vr169
theorem a_vh170 : a_vmh a_e170 = true := by decide +kernel
theorem a_vr170 : a_c170.all (a_vrow "WashAndDryModel" ((Option.some Jvm.ClassFile.FieldType.int)) prog_14_method_26_code) = true := by decide +kernel
theorem a_v170 : a_vmt a_e170 = true := a_vmk a_vh170 rfl rfl rfl rfl a_vr170
theorem a_vh171 : a_vmh a_e171 = true := by decide +kernel
theorem a_vr171 : a_c171.all (a_vrow "WashAndDryModel" ((Option.none : Option Jvm.ClassFile.FieldType)) prog_14_method_27_code) = true := by decide +kernel
theorem a_v171 : a_vmt a_e171 = true := a_vmk a_vh171 rfl rfl rfl rfl a_vr171
theorem a_vh172 : a_vmh a_e172 = true := by decide +kernel
theorem a_vr172 : a_c172.all (a_vrow "WashAndDryModel" ((Option.some Jvm.ClassFile.FieldType.int)) prog_14_method_28_code) = true := by decide +kernel
theorem a_v172 : a_vmt a_e172 = true := a_vmk a_vh172 rfl rfl rfl rfl a_vr172
theorem a_vh173 : a_vmh a_e173 = true := by decide +kernel
theorem a_vr173 : a_c173.all (a_vrow "WashAndDryModel" ((Option.some Jvm.ClassFile.FieldType.int)) prog_14_method_29_code) = true := by decide +kernel
theorem a_v173 : a_vmt a_e173 = true := a_vmk a_vh173 rfl rfl rfl rfl a_vr173
theorem a_vh174 : a_vmh a_e174 = true := by decide +kernel
theorem a_vr174 : a_c174.all (a_vrow "WashAndDryModel" ((Option.some Jvm.ClassFile.FieldType.boolean)) prog_14_method_30_code) = true := by decide +kernel
theorem a_v174 : a_vmt a_e174 = true := a_vmk a_vh174 rfl rfl rfl rfl a_vr174
theorem a_vh175 : a_vmh a_e175 = true := by decide +kernel
theorem a_vr175 : a_c175.all (a_vrow "WashAndDryModel" ((Option.some Jvm.ClassFile.FieldType.boolean)) prog_14_method_31_code) = true := by decide +kernel
theorem a_v175 : a_vmt a_e175 = true := a_vmk a_vh175 rfl rfl rfl rfl a_vr175
theorem a_vh176 : a_vmh a_e176 = true := by decide +kernel
theorem a_vr176 : a_c176.all (a_vrow "WashAndDryModel" ((Option.some Jvm.ClassFile.FieldType.int)) prog_14_method_32_code) = true := by decide +kernel
theorem a_v176 : a_vmt a_e176 = true := a_vmk a_vh176 rfl rfl rfl rfl a_vr176
theorem a_vh177 : a_vmh a_e177 = true := by decide +kernel
theorem a_vr177 : a_c177.all (a_vrow "WashAndDryModel" ((Option.some Jvm.ClassFile.FieldType.int)) prog_14_method_33_code) = true := by decide +kernel
theorem a_v177 : a_vmt a_e177 = true := a_vmk a_vh177 rfl rfl rfl rfl a_vr177
theorem a_vh178 : a_vmh a_e178 = true := by decide +kernel
theorem a_vr178 : a_c178.all (a_vrow "WashAndDryModel" ((Option.some Jvm.ClassFile.FieldType.int)) prog_14_method_34_code) = true := by decide +kernel
theorem a_v178 : a_vmt a_e178 = true := a_vmk a_vh178 rfl rfl rfl rfl a_vr178
theorem a_vh179 : a_vmh a_e179 = true := by decide +kernel
theorem a_vr179 : a_c179.all (a_vrow "WashAndDryModel" ((Option.some Jvm.ClassFile.FieldType.int)) prog_14_method_35_code) = true := by decide +kernel
theorem a_v179 : a_vmt a_e179 = true := a_vmk a_vh179 rfl rfl rfl rfl a_vr179
theorem a_vh180 : a_vmh a_e180 = true := by decide +kernel
theorem a_vr180 : a_c180.all (a_vrow "WashAndDryModel" ((Option.some Jvm.ClassFile.FieldType.int)) prog_14_method_36_code) = true := by decide +kernel
theorem a_v180 : a_vmt a_e180 = true := a_vmk a_vh180 rfl rfl rfl rfl a_vr180
theorem a_vh181 : a_vmh a_e181 = true := by decide +kernel
theorem a_vr181 : a_c181.all (a_vrow "WashAndDryModel" ((Option.some Jvm.ClassFile.FieldType.int)) prog_14_method_37_code) = true := by decide +kernel
theorem a_v181 : a_vmt a_e181 = true := a_vmk a_vh181 rfl rfl rfl rfl a_vr181
theorem a_vh182 : a_vmh a_e182 = true := by decide +kernel
theorem a_vr182 : a_c182.all (a_vrow "WashAndDryModel" ((Option.none : Option Jvm.ClassFile.FieldType)) prog_14_method_38_code) = true := by decide +kernel
theorem a_v182 : a_vmt a_e182 = true := a_vmk a_vh182 rfl rfl rfl rfl a_vr182
theorem a_vh183 : a_vmh a_e183 = true := by decide +kernel
theorem a_vr183 : a_c183.all (a_vrow "WashAndDryModel" ((Option.some Jvm.ClassFile.FieldType.int)) prog_14_method_39_code) = true := by decide +kernel
theorem a_v183 : a_vmt a_e183 = true := a_vmk a_vh183 rfl rfl rfl rfl a_vr183
theorem a_vh184 : a_vmh a_e184 = true := by decide +kernel
theorem a_vr184 : a_c184.all (a_vrow "WashAndDryModel" ((Option.some Jvm.ClassFile.FieldType.int)) prog_14_method_40_code) = true := by decide +kernel
theorem a_v184 : a_vmt a_e184 = true := a_vmk a_vh184 rfl rfl rfl rfl a_vr184
theorem a_vh185 : a_vmh a_e185 = true := by decide +kernel
theorem a_vr185 : a_c185.all (a_vrow "WashAndDryModel" ((Option.some Jvm.ClassFile.FieldType.int)) prog_14_method_41_code) = true := by decide +kernel
theorem a_v185 : a_vmt a_e185 = true := a_vmk a_vh185 rfl rfl rfl rfl a_vr185
theorem a_vh186 : a_vmh a_e186 = true := by decide +kernel
theorem a_vr186 : a_c186.all (a_vrow "WashAndDryModel" ((Option.some Jvm.ClassFile.FieldType.int)) prog_14_method_42_code) = true := by decide +kernel
theorem a_v186 : a_vmt a_e186 = true := a_vmk a_vh186 rfl rfl rfl rfl a_vr186
theorem a_vh187 : a_vmh a_e187 = true := by decide +kernel
theorem a_vr187 : a_c187.all (a_vrow "WashAndDryModel" ((Option.some Jvm.ClassFile.FieldType.int)) prog_14_method_43_code) = true := by decide +kernel
theorem a_v187 : a_vmt a_e187 = true := a_vmk a_vh187 rfl rfl rfl rfl a_vr187
theorem a_vh188 : a_vmh a_e188 = true := by decide +kernel
theorem a_vr188 : a_c188.all (a_vrow "WashAndDryModel" ((Option.some Jvm.ClassFile.FieldType.int)) prog_14_method_44_code) = true := by decide +kernel
theorem a_v188 : a_vmt a_e188 = true := a_vmk a_vh188 rfl rfl rfl rfl a_vr188
theorem a_vh189 : a_vmh a_e189 = true := by decide +kernel
theorem a_vr189 : a_c189.all (a_vrow "WashAndDryModel" ((Option.some Jvm.ClassFile.FieldType.boolean)) prog_14_method_45_code) = true := by decide +kernel
theorem a_v189 : a_vmt a_e189 = true := a_vmk a_vh189 rfl rfl rfl rfl a_vr189
theorem a_vh190 : a_vmh a_e190 = true := by decide +kernel
theorem a_vr190 : a_c190.all (a_vrow "WashAndDryModel" ((Option.some Jvm.ClassFile.FieldType.int)) prog_14_method_46_code) = true := by decide +kernel
theorem a_v190 : a_vmt a_e190 = true := a_vmk a_vh190 rfl rfl rfl rfl a_vr190
theorem a_vh191 : a_vmh a_e191 = true := by decide +kernel
theorem a_vr191 : a_c191.all (a_vrow "WashAndDryModel" ((Option.some Jvm.ClassFile.FieldType.int)) prog_14_method_47_code) = true := by decide +kernel
theorem a_v191 : a_vmt a_e191 = true := a_vmk a_vh191 rfl rfl rfl rfl a_vr191
theorem a_vh192 : a_vmh a_e192 = true := by decide +kernel
theorem a_vr192 : a_c192.all (a_vrow "WashAndDryModel" ((Option.some Jvm.ClassFile.FieldType.int)) prog_14_method_48_code) = true := by decide +kernel
theorem a_v192 : a_vmt a_e192 = true := a_vmk a_vh192 rfl rfl rfl rfl a_vr192
theorem a_vh193 : a_vmh a_e193 = true := by decide +kernel
theorem a_vr193 : a_c193.all (a_vrow "WashAndDryModel" ((Option.none : Option Jvm.ClassFile.FieldType)) prog_14_method_49_code) = true := by decide +kernel
theorem a_v193 : a_vmt a_e193 = true := a_vmk a_vh193 rfl rfl rfl rfl a_vr193
theorem a_vh194 : a_vmh a_e194 = true := by decide +kernel
theorem a_vr194 : a_c194.all (a_vrow "WashAndDryModel" ((Option.none : Option Jvm.ClassFile.FieldType)) prog_14_method_50_code) = true := by decide +kernel
theorem a_v194 : a_vmt a_e194 = true := a_vmk a_vh194 rfl rfl rfl rfl a_vr194
theorem a_vh195 : a_vmh a_e195 = true := by decide +kernel
theorem a_vr195 : a_c195.all (a_vrow "WashAndDryModel" ((Option.none : Option Jvm.ClassFile.FieldType)) prog_14_method_51_code) = true := by decide +kernel
theorem a_v195 : a_vmt a_e195 = true := a_vmk a_vh195 rfl rfl rfl rfl a_vr195
theorem a_vh196 : a_vmh a_e196 = true := by decide +kernel
theorem a_vr196_0 : (List.take 100 a_c196).all (a_vrow "WashAndDryModel" ((Option.none : Option Jvm.ClassFile.FieldType)) prog_14_method_52_code) = true := by decide +kernel
theorem a_vr196_1 : (List.drop 100 a_c196).all (a_vrow "WashAndDryModel" ((Option.none : Option Jvm.ClassFile.FieldType)) prog_14_method_52_code) = true := by decide +kernel
theorem a_vr196 : a_c196.all (a_vrow "WashAndDryModel" ((Option.none : Option Jvm.ClassFile.FieldType)) prog_14_method_52_code) = true := a_vspl 100 a_vr196_0 (a_vr196_1)
theorem a_v196 : a_vmt a_e196 = true := a_vmk a_vh196 rfl rfl rfl rfl a_vr196
theorem a_vh197 : a_vmh a_e197 = true := by decide +kernel
theorem a_vr197 : a_c197.all (a_vrow "WashAndDryModel" ((Option.some Jvm.ClassFile.FieldType.int)) prog_14_method_53_code) = true := by decide +kernel
theorem a_v197 : a_vmt a_e197 = true := a_vmk a_vh197 rfl rfl rfl rfl a_vr197
theorem a_vh198 : a_vmh a_e198 = true := by decide +kernel
theorem a_vr198 : a_c198.all (a_vrow "WashAndDryModel" ((Option.some Jvm.ClassFile.FieldType.int)) prog_14_method_54_code) = true := by decide +kernel
theorem a_v198 : a_vmt a_e198 = true := a_vmk a_vh198 rfl rfl rfl rfl a_vr198
theorem a_vh199 : a_vmh a_e199 = true := by decide +kernel
theorem a_vr199 : a_c199.all (a_vrow "WashAndDryModel" ((Option.some Jvm.ClassFile.FieldType.int)) prog_14_method_55_code) = true := by decide +kernel
theorem a_v199 : a_vmt a_e199 = true := a_vmk a_vh199 rfl rfl rfl rfl a_vr199
theorem a_vh200 : a_vmh a_e200 = true := by decide +kernel
theorem a_vr200 : a_c200.all (a_vrow "WashAndDryModel" ((Option.some Jvm.ClassFile.FieldType.int)) prog_14_method_56_code) = true := by decide +kernel
theorem a_v200 : a_vmt a_e200 = true := a_vmk a_vh200 rfl rfl rfl rfl a_vr200
theorem a_vh201 : a_vmh a_e201 = true := by decide +kernel
theorem a_vr201 : a_c201.all (a_vrow "WashAndDryModel" ((Option.some Jvm.ClassFile.FieldType.int)) prog_14_method_57_code) = true := by decide +kernel
theorem a_v201 : a_vmt a_e201 = true := a_vmk a_vh201 rfl rfl rfl rfl a_vr201
theorem a_vh202 : a_vmh a_e202 = true := by decide +kernel
theorem a_vr202 : a_c202.all (a_vrow "WashAndDryModel" ((Option.some Jvm.ClassFile.FieldType.int)) prog_14_method_58_code) = true := by decide +kernel
theorem a_v202 : a_vmt a_e202 = true := a_vmk a_vh202 rfl rfl rfl rfl a_vr202
theorem a_vh203 : a_vmh a_e203 = true := by decide +kernel
theorem a_vr203 : a_c203.all (a_vrow "WashAndDryModel" ((Option.some Jvm.ClassFile.FieldType.int)) prog_14_method_59_code) = true := by decide +kernel
theorem a_v203 : a_vmt a_e203 = true := a_vmk a_vh203 rfl rfl rfl rfl a_vr203
theorem a_vh204 : a_vmh a_e204 = true := by decide +kernel
theorem a_vr204 : a_c204.all (a_vrow "WashAndDryModel" ((Option.none : Option Jvm.ClassFile.FieldType)) prog_14_method_60_code) = true := by decide +kernel
theorem a_v204 : a_vmt a_e204 = true := a_vmk a_vh204 rfl rfl rfl rfl a_vr204
theorem a_vh205 : a_vmh a_e205 = true := by decide +kernel
theorem a_vr205 : a_c205.all (a_vrow "WashAndDryModel" ((Option.some Jvm.ClassFile.FieldType.int)) prog_14_method_61_code) = true := by decide +kernel
theorem a_v205 : a_vmt a_e205 = true := a_vmk a_vh205 rfl rfl rfl rfl a_vr205
theorem a_vh206 : a_vmh a_e206 = true := by decide +kernel
theorem a_vr206 : a_c206.all (a_vrow "WashAndDryModel" ((Option.some Jvm.ClassFile.FieldType.int)) prog_14_method_62_code) = true := by decide +kernel
theorem a_v206 : a_vmt a_e206 = true := a_vmk a_vh206 rfl rfl rfl rfl a_vr206
theorem a_vh207 : a_vmh a_e207 = true := by decide +kernel
theorem a_vr207 : a_c207.all (a_vrow "WashAndDryModel" ((Option.some Jvm.ClassFile.FieldType.int)) prog_14_method_63_code) = true := by decide +kernel
theorem a_v207 : a_vmt a_e207 = true := a_vmk a_vh207 rfl rfl rfl rfl a_vr207
