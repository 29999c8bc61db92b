theorem a_vh72 : a_vmh a_e72 = true := by decide +kernel
theorem a_vr72 : a_c72.all (a_vrow "WashAndDry$Hands" ((Option.some Jvm.ClassFile.FieldType.int)) prog_4_method_9_code) = true := by decide +kernel
theorem a_v72 : a_vmt a_e72 = true := a_vmk a_vh72 rfl rfl rfl rfl a_vr72
theorem a_vh73 : a_vmh a_e73 = true := by decide +kernel
theorem a_vr73 : a_c73.all (a_vrow "WashAndDry$Hands" ((Option.none : Option Jvm.ClassFile.FieldType)) prog_4_method_10_code) = true := by decide +kernel
theorem a_v73 : a_vmt a_e73 = true := a_vmk a_vh73 rfl rfl rfl rfl a_vr73
theorem a_vh74 : a_vmh a_e74 = true := by decide +kernel
theorem a_vr74 : a_c74.all (a_vrow "WashAndDry$Hands" ((Option.some Jvm.ClassFile.FieldType.int)) prog_4_method_11_code) = true := by decide +kernel
theorem a_v74 : a_vmt a_e74 = true := a_vmk a_vh74 rfl rfl rfl rfl a_vr74
theorem a_vh75 : a_vmh a_e75 = true := by decide +kernel
theorem a_vr75 : a_c75.all (a_vrow "WashAndDry$Hands" ((Option.some Jvm.ClassFile.FieldType.int)) prog_4_method_12_code) = true := by decide +kernel
theorem a_v75 : a_vmt a_e75 = true := a_vmk a_vh75 rfl rfl rfl rfl a_vr75
theorem a_vh76 : a_vmh a_e76 = true := by decide +kernel
theorem a_vr76 : a_c76.all (a_vrow "WashAndDry$Kitchen" ((Option.none : Option Jvm.ClassFile.FieldType)) prog_5_method_2_code) = true := by decide +kernel
theorem a_v76 : a_vmt a_e76 = true := a_vmk a_vh76 rfl rfl rfl rfl a_vr76
theorem a_vh77 : a_vmh a_e77 = true := by decide +kernel
theorem a_vr77 : a_c77.all (a_vrow "WashAndDry$Letters" ((Option.some Jvm.ClassFile.FieldType.int)) prog_6_method_2_code) = true := by decide +kernel
theorem a_v77 : a_vmt a_e77 = true := a_vmk a_vh77 rfl rfl rfl rfl a_vr77
theorem a_vh78 : a_vmh a_e78 = true := by decide +kernel
theorem a_vr78 : a_c78.all (a_vrow "WashAndDry$Letters" ((Option.none : Option Jvm.ClassFile.FieldType)) prog_6_method_3_code) = true := by decide +kernel
theorem a_v78 : a_vmt a_e78 = true := a_vmk a_vh78 rfl rfl rfl rfl a_vr78
theorem a_vh79 : a_vmh a_e79 = true := by decide +kernel
theorem a_vr79 : a_c79.all (a_vrow "WashAndDry$Letters" ((Option.some Jvm.ClassFile.FieldType.int)) prog_6_method_4_code) = true := by decide +kernel
theorem a_v79 : a_vmt a_e79 = true := a_vmk a_vh79 rfl rfl rfl rfl a_vr79
theorem a_vh80 : a_vmh a_e80 = true := by decide +kernel
theorem a_vr80 : a_c80.all (a_vrow "WashAndDry$Letters" ((Option.some Jvm.ClassFile.FieldType.int)) prog_6_method_5_code) = true := by decide +kernel
theorem a_v80 : a_vmt a_e80 = true := a_vmk a_vh80 rfl rfl rfl rfl a_vr80
theorem a_vh81 : a_vmh a_e81 = true := by decide +kernel
theorem a_vr81 : a_c81.all (a_vrow "WashAndDry$Letters" ((Option.some Jvm.ClassFile.FieldType.int)) prog_6_method_6_code) = true := by decide +kernel
theorem a_v81 : a_vmt a_e81 = true := a_vmk a_vh81 rfl rfl rfl rfl a_vr81
theorem a_vh82 : a_vmh a_e82 = true := by decide +kernel
theorem a_vr82 : a_c82.all (a_vrow "WashAndDry$Letters" ((Option.some Jvm.ClassFile.FieldType.int)) prog_6_method_7_code) = true := by decide +kernel
theorem a_v82 : a_vmt a_e82 = true := a_vmk a_vh82 rfl rfl rfl rfl a_vr82
theorem a_vh83 : a_vmh a_e83 = true := by decide +kernel
theorem a_vr83 : a_c83.all (a_vrow "WashAndDry$Letters" ((Option.some Jvm.ClassFile.FieldType.boolean)) prog_6_method_8_code) = true := by decide +kernel
theorem a_v83 : a_vmt a_e83 = true := a_vmk a_vh83 rfl rfl rfl rfl a_vr83
theorem a_vh84 : a_vmh a_e84 = true := by decide +kernel
theorem a_vr84 : a_c84.all (a_vrow "WashAndDry$Letters" ((Option.some Jvm.ClassFile.FieldType.boolean)) prog_6_method_9_code) = true := by decide +kernel
theorem a_v84 : a_vmt a_e84 = true := a_vmk a_vh84 rfl rfl rfl rfl a_vr84
theorem a_vh85 : a_vmh a_e85 = true := by decide +kernel
theorem a_vr85 : a_c85.all (a_vrow "WashAndDry$Letters" ((Option.some Jvm.ClassFile.FieldType.boolean)) prog_6_method_10_code) = true := by decide +kernel
theorem a_v85 : a_vmt a_e85 = true := a_vmk a_vh85 rfl rfl rfl rfl a_vr85
theorem a_vh86 : a_vmh a_e86 = true := by decide +kernel
theorem a_vr86 : a_c86.all (a_vrow "WashAndDry$Letters" ((Option.some Jvm.ClassFile.FieldType.boolean)) prog_6_method_11_code) = true := by decide +kernel
theorem a_v86 : a_vmt a_e86 = true := a_vmk a_vh86 rfl rfl rfl rfl a_vr86
theorem a_vh87 : a_vmh a_e87 = true := by decide +kernel
theorem a_vr87 : a_c87.all (a_vrow "WashAndDry$Letters" ((Option.some Jvm.ClassFile.FieldType.boolean)) prog_6_method_12_code) = true := by decide +kernel
theorem a_v87 : a_vmt a_e87 = true := a_vmk a_vh87 rfl rfl rfl rfl a_vr87
theorem a_vh88 : a_vmh a_e88 = true := by decide +kernel
theorem a_vr88 : a_c88.all (a_vrow "WashAndDry$Letters" ((Option.some Jvm.ClassFile.FieldType.int)) prog_6_method_13_code) = true := by decide +kernel
theorem a_v88 : a_vmt a_e88 = true := a_vmk a_vh88 rfl rfl rfl rfl a_vr88
theorem a_vh89 : a_vmh a_e89 = true := by decide +kernel
theorem a_vr89 : a_c89.all (a_vrow "WashAndDry$Letters" ((Option.some Jvm.ClassFile.FieldType.boolean)) prog_6_method_14_code) = true := by decide +kernel
theorem a_v89 : a_vmt a_e89 = true := a_vmk a_vh89 rfl rfl rfl rfl a_vr89
theorem a_vh90 : a_vmh a_e90 = true := by decide +kernel
theorem a_vr90 : a_c90.all (a_vrow "WashAndDry$Letters" ((Option.some Jvm.ClassFile.FieldType.int)) prog_6_method_15_code) = true := by decide +kernel
theorem a_v90 : a_vmt a_e90 = true := a_vmk a_vh90 rfl rfl rfl rfl a_vr90
theorem a_vh91 : a_vmh a_e91 = true := by decide +kernel
theorem a_vr91 : a_c91.all (a_vrow "WashAndDry$Order" ((Option.some Jvm.ClassFile.FieldType.int)) prog_7_method_2_code) = true := by decide +kernel
theorem a_v91 : a_vmt a_e91 = true := a_vmk a_vh91 rfl rfl rfl rfl a_vr91
theorem a_vh92 : a_vmh a_e92 = true := by decide +kernel
theorem a_vr92 : a_c92.all (a_vrow "WashAndDry$Order" ((Option.some Jvm.ClassFile.FieldType.boolean)) prog_7_method_3_code) = true := by decide +kernel
theorem a_v92 : a_vmt a_e92 = true := a_vmk a_vh92 rfl rfl rfl rfl a_vr92
theorem a_vh93 : a_vmh a_e93 = true := by decide +kernel
theorem a_vr93 : a_c93.all (a_vrow "WashAndDry$Order" ((Option.some Jvm.ClassFile.FieldType.int)) prog_7_method_4_code) = true := by decide +kernel
theorem a_v93 : a_vmt a_e93 = true := a_vmk a_vh93 rfl rfl rfl rfl a_vr93
theorem a_vh94 : a_vmh a_e94 = true := by decide +kernel
theorem a_vr94 : a_c94.all (a_vrow "WashAndDry$Order" ((Option.some Jvm.ClassFile.FieldType.boolean)) prog_7_method_5_code) = true := by decide +kernel
theorem a_v94 : a_vmt a_e94 = true := a_vmk a_vh94 rfl rfl rfl rfl a_vr94
theorem a_vh95 : a_vmh a_e95 = true := by decide +kernel
theorem a_vr95 : a_c95.all (a_vrow "WashAndDry$Order" ((Option.some Jvm.ClassFile.FieldType.int)) prog_7_method_6_code) = true := by decide +kernel
theorem a_v95 : a_vmt a_e95 = true := a_vmk a_vh95 rfl rfl rfl rfl a_vr95
theorem a_vh96 : a_vmh a_e96 = true := by decide +kernel
theorem a_vr96 : a_c96.all (a_vrow "WashAndDry$Order" ((Option.some Jvm.ClassFile.FieldType.int)) prog_7_method_7_code) = true := by decide +kernel
theorem a_v96 : a_vmt a_e96 = true := a_vmk a_vh96 rfl rfl rfl rfl a_vr96
theorem a_vh97 : a_vmh a_e97 = true := by decide +kernel
theorem a_vr97 : a_c97.all (a_vrow "WashAndDry$Order" ((Option.some Jvm.ClassFile.FieldType.boolean)) prog_7_method_8_code) = true := by decide +kernel
theorem a_v97 : a_vmt a_e97 = true := a_vmk a_vh97 rfl rfl rfl rfl a_vr97
theorem a_vh98 : a_vmh a_e98 = true := by decide +kernel
theorem a_vr98 : a_c98.all (a_vrow "WashAndDry$Order" ((Option.none : Option Jvm.ClassFile.FieldType)) prog_7_method_9_code) = true := by decide +kernel
theorem a_v98 : a_vmt a_e98 = true := a_vmk a_vh98 rfl rfl rfl rfl a_vr98
theorem a_vh99 : a_vmh a_e99 = true := by decide +kernel
theorem a_vr99 : a_c99.all (a_vrow "WashAndDry$Order" ((Option.none : Option Jvm.ClassFile.FieldType)) prog_7_method_10_code) = true := by decide +kernel
theorem a_v99 : a_vmt a_e99 = true := a_vmk a_vh99 rfl rfl rfl rfl a_vr99
theorem a_vh100 : a_vmh a_e100 = true := by decide +kernel
theorem a_vr100 : a_c100.all (a_vrow "WashAndDry$Order" ((Option.none : Option Jvm.ClassFile.FieldType)) prog_7_method_11_code) = true := by decide +kernel
theorem a_v100 : a_vmt a_e100 = true := a_vmk a_vh100 rfl rfl rfl rfl a_vr100
theorem a_vh101 : a_vmh a_e101 = true := by decide +kernel
theorem a_vr101 : a_c101.all (a_vrow "WashAndDry$Order" ((Option.none : Option Jvm.ClassFile.FieldType)) prog_7_method_12_code) = true := by decide +kernel
theorem a_v101 : a_vmt a_e101 = true := a_vmk a_vh101 rfl rfl rfl rfl a_vr101
theorem a_vh102 : a_vmh a_e102 = true := by decide +kernel
theorem a_vr102 : a_c102.all (a_vrow "WashAndDry$Order" ((Option.none : Option Jvm.ClassFile.FieldType)) prog_7_method_13_code) = true := by decide +kernel
theorem a_v102 : a_vmt a_e102 = true := a_vmk a_vh102 rfl rfl rfl rfl a_vr102
theorem a_vh103 : a_vmh a_e103 = true := by decide +kernel
theorem a_vr103 : a_c103.all (a_vrow "WashAndDry$Order" ((Option.none : Option Jvm.ClassFile.FieldType)) prog_7_method_14_code) = true := by decide +kernel
theorem a_v103 : a_vmt a_e103 = true := a_vmk a_vh103 rfl rfl rfl rfl a_vr103
theorem a_vh104 : a_vmh a_e104 = true := by decide +kernel
theorem a_vr104 : a_c104.all (a_vrow "WashAndDry$Order" ((Option.none : Option Jvm.ClassFile.FieldType)) prog_7_method_15_code) = true := by decide +kernel
theorem a_v104 : a_vmt a_e104 = true := a_vmk a_vh104 rfl rfl rfl rfl a_vr104
theorem a_vh105 : a_vmh a_e105 = true := by decide +kernel
theorem a_vr105 : a_c105.all (a_vrow "WashAndDry$Order" ((Option.none : Option Jvm.ClassFile.FieldType)) prog_7_method_16_code) = true := by decide +kernel
theorem a_v105 : a_vmt a_e105 = true := a_vmk a_vh105 rfl rfl rfl rfl a_vr105
theorem a_vh106 : a_vmh a_e106 = true := by decide +kernel
theorem a_vr106 : a_c106.all (a_vrow "WashAndDry$Order" ((Option.none : Option Jvm.ClassFile.FieldType)) prog_7_method_17_code) = true := by decide +kernel
theorem a_v106 : a_vmt a_e106 = true := a_vmk a_vh106 rfl rfl rfl rfl a_vr106
theorem a_vh107 : a_vmh a_e107 = true := by decide +kernel
theorem a_vr107 : a_c107.all (a_vrow "WashAndDry$Order" ((Option.some Jvm.ClassFile.FieldType.boolean)) prog_7_method_18_code) = true := by decide +kernel
theorem a_v107 : a_vmt a_e107 = true := a_vmk a_vh107 rfl rfl rfl rfl a_vr107
theorem a_vh108 : a_vmh a_e108 = true := by decide +kernel
theorem a_vr108 : a_c108.all (a_vrow "WashAndDry$Order" ((Option.none : Option Jvm.ClassFile.FieldType)) prog_7_method_19_code) = true := by decide +kernel
theorem a_v108 : a_vmt a_e108 = true := a_vmk a_vh108 rfl rfl rfl rfl a_vr108
theorem a_vh109 : a_vmh a_e109 = true := by decide +kernel
theorem a_vr109 : a_c109.all (a_vrow "WashAndDry$Order" ((Option.some Jvm.ClassFile.FieldType.int)) prog_7_method_20_code) = true := by decide +kernel
theorem a_v109 : a_vmt a_e109 = true := a_vmk a_vh109 rfl rfl rfl rfl a_vr109
theorem a_vh110 : a_vmh a_e110 = true := by decide +kernel
theorem a_vr110 : a_c110.all (a_vrow "WashAndDry$Rows" ((Option.some Jvm.ClassFile.FieldType.int)) prog_8_method_2_code) = true := by decide +kernel
theorem a_v110 : a_vmt a_e110 = true := a_vmk a_vh110 rfl rfl rfl rfl a_vr110
theorem a_vh111 : a_vmh a_e111 = true := by decide +kernel
theorem a_vr111 : a_c111.all (a_vrow "WashAndDry$Rows" ((Option.none : Option Jvm.ClassFile.FieldType)) prog_8_method_3_code) = true := by decide +kernel
theorem a_v111 : a_vmt a_e111 = true := a_vmk a_vh111 rfl rfl rfl rfl a_vr111
theorem a_vh112 : a_vmh a_e112 = true := by decide +kernel
theorem a_vr112 : a_c112.all (a_vrow "WashAndDry$Rows" ((Option.none : Option Jvm.ClassFile.FieldType)) prog_8_method_4_code) = true := by decide +kernel
theorem a_v112 : a_vmt a_e112 = true := a_vmk a_vh112 rfl rfl rfl rfl a_vr112
theorem a_vh113 : a_vmh a_e113 = true := by decide +kernel
theorem a_vr113 : a_c113.all (a_vrow "WashAndDry$Things" ((Option.some Jvm.ClassFile.FieldType.int)) prog_9_method_2_code) = true := by decide +kernel
theorem a_v113 : a_vmt a_e113 = true := a_vmk a_vh113 rfl rfl rfl rfl a_vr113
theorem a_vh114 : a_vmh a_e114 = true := by decide +kernel
theorem a_vr114 : a_c114.all (a_vrow "WashAndDry$Things" ((Option.none : Option Jvm.ClassFile.FieldType)) prog_9_method_3_code) = true := by decide +kernel
theorem a_v114 : a_vmt a_e114 = true := a_vmk a_vh114 rfl rfl rfl rfl a_vr114
theorem a_vh115 : a_vmh a_e115 = true := by decide +kernel
theorem a_vr115 : a_c115.all (a_vrow "WashAndDry$Things" ((Option.some Jvm.ClassFile.FieldType.int)) prog_9_method_4_code) = true := by decide +kernel
theorem a_v115 : a_vmt a_e115 = true := a_vmk a_vh115 rfl rfl rfl rfl a_vr115
theorem a_vh116 : a_vmh a_e116 = true := by decide +kernel
theorem a_vr116 : a_c116.all (a_vrow "WashAndDry$Things" ((Option.some Jvm.ClassFile.FieldType.int)) prog_9_method_5_code) = true := by decide +kernel
theorem a_v116 : a_vmt a_e116 = true := a_vmk a_vh116 rfl rfl rfl rfl a_vr116
theorem a_vh117 : a_vmh a_e117 = true := by decide +kernel
theorem a_vr117 : a_c117.all (a_vrow "WashAndDry$Things" ((Option.some Jvm.ClassFile.FieldType.int)) prog_9_method_6_code) = true := by decide +kernel
theorem a_v117 : a_vmt a_e117 = true := a_vmk a_vh117 rfl rfl rfl rfl a_vr117
theorem a_vh118 : a_vmh a_e118 = true := by decide +kernel
theorem a_vr118 : a_c118.all (a_vrow "WashAndDry$Things" ((Option.some Jvm.ClassFile.FieldType.int)) prog_9_method_7_code) = true := by decide +kernel
theorem a_v118 : a_vmt a_e118 = true := a_vmk a_vh118 rfl rfl rfl rfl a_vr118
theorem a_vh119 : a_vmh a_e119 = true := by decide +kernel
theorem a_vr119 : a_c119.all (a_vrow "WashAndDry$Things" ((Option.some Jvm.ClassFile.FieldType.int)) prog_9_method_8_code) = true := by decide +kernel
theorem a_v119 : a_vmt a_e119 = true := a_vmk a_vh119 rfl rfl rfl rfl a_vr119
theorem a_vh120 : a_vmh a_e120 = true := by decide +kernel
theorem a_vr120 : a_c120.all (a_vrow "WashAndDry$Things" ((Option.some Jvm.ClassFile.FieldType.int)) prog_9_method_9_code) = true := by decide +kernel
theorem a_v120 : a_vmt a_e120 = true := a_vmk a_vh120 rfl rfl rfl rfl a_vr120
theorem a_vh121 : a_vmh a_e121 = true := by decide +kernel
theorem a_vr121 : a_c121.all (a_vrow "WashAndDry$Things" ((Option.some Jvm.ClassFile.FieldType.boolean)) prog_9_method_10_code) = true := by decide +kernel
theorem a_v121 : a_vmt a_e121 = true := a_vmk a_vh121 rfl rfl rfl rfl a_vr121
theorem a_vh122 : a_vmh a_e122 = true := by decide +kernel
theorem a_vr122 : a_c122.all (a_vrow "WashAndDry$Things" ((Option.none : Option Jvm.ClassFile.FieldType)) prog_9_method_11_code) = true := by decide +kernel
theorem a_v122 : a_vmt a_e122 = true := a_vmk a_vh122 rfl rfl rfl rfl a_vr122
theorem a_vh123 : a_vmh a_e123 = true := by decide +kernel
theorem a_vr123 : a_c123.all (a_vrow "WashAndDry$Tries" ((Option.some Jvm.ClassFile.FieldType.int)) prog_10_method_2_code) = true := by decide +kernel
theorem a_v123 : a_vmt a_e123 = true := a_vmk a_vh123 rfl rfl rfl rfl a_vr123
theorem a_vh124 : a_vmh a_e124 = true := by decide +kernel
theorem a_vr124 : a_c124.all (a_vrow "WashAndDry$Tries" ((Option.some Jvm.ClassFile.FieldType.int)) prog_10_method_3_code) = true := by decide +kernel
theorem a_v124 : a_vmt a_e124 = true := a_vmk a_vh124 rfl rfl rfl rfl a_vr124
theorem a_vh125 : a_vmh a_e125 = true := by decide +kernel
theorem a_vr125 : a_c125.all (a_vrow "WashAndDry$Tries" ((Option.none : Option Jvm.ClassFile.FieldType)) prog_10_method_4_code) = true := by decide +kernel
theorem a_v125 : a_vmt a_e125 = true := a_vmk a_vh125 rfl rfl rfl rfl a_vr125
theorem a_vh126 : a_vmh a_e126 = true := by decide +kernel
theorem a_vr126 : a_c126.all (a_vrow "WashAndDry$Tries" ((Option.none : Option Jvm.ClassFile.FieldType)) prog_10_method_5_code) = true := by decide +kernel
theorem a_v126 : a_vmt a_e126 = true := a_vmk a_vh126 rfl rfl rfl rfl a_vr126
theorem a_vh127 : a_vmh a_e127 = true := by decide +kernel
theorem a_vr127 : a_c127.all (a_vrow "WashAndDry$Tries" ((Option.none : Option Jvm.ClassFile.FieldType)) prog_10_method_6_code) = true := by decide +kernel
theorem a_v127 : a_vmt a_e127 = true := a_vmk a_vh127 rfl rfl rfl rfl a_vr127
theorem a_vh128 : a_vmh a_e128 = true := by decide +kernel
theorem a_vr128 : a_c128.all (a_vrow "WashAndDry$Tries" ((Option.none : Option Jvm.ClassFile.FieldType)) prog_10_method_7_code) = true := by decide +kernel
theorem a_v128 : a_vmt a_e128 = true := a_vmk a_vh128 rfl rfl rfl rfl a_vr128
theorem a_vh129 : a_vmh a_e129 = true := by decide +kernel
theorem a_vr129 : a_c129.all (a_vrow "WashAndDry$Tries" ((Option.none : Option Jvm.ClassFile.FieldType)) prog_10_method_8_code) = true := by decide +kernel
theorem a_v129 : a_vmt a_e129 = true := a_vmk a_vh129 rfl rfl rfl rfl a_vr129
theorem a_vh130 : a_vmh a_e130 = true := by decide +kernel
theorem a_vr130 : a_c130.all (a_vrow "WashAndDry$Tries" ((Option.none : Option Jvm.ClassFile.FieldType)) prog_10_method_9_code) = true := by decide +kernel
theorem a_v130 : a_vmt a_e130 = true := a_vmk a_vh130 rfl rfl rfl rfl a_vr130
theorem a_vh131 : a_vmh a_e131 = true := by decide +kernel
theorem a_vr131 : a_c131.all (a_vrow "WashAndDry$Tries" ((Option.some Jvm.ClassFile.FieldType.int)) prog_10_method_10_code) = true := by decide +kernel
theorem a_v131 : a_vmt a_e131 = true := a_vmk a_vh131 rfl rfl rfl rfl a_vr131
theorem a_vh132 : a_vmh a_e132 = true := by decide +kernel
theorem a_vr132 : a_c132.all (a_vrow "WashAndDry$Turns" ((Option.none : Option Jvm.ClassFile.FieldType)) prog_11_method_2_code) = true := by decide +kernel
theorem a_v132 : a_vmt a_e132 = true := a_vmk a_vh132 rfl rfl rfl rfl a_vr132
theorem a_vh133 : a_vmh a_e133 = true := by decide +kernel
theorem a_vr133 : a_c133.all (a_vrow "WashAndDry$Turns" ((Option.none : Option Jvm.ClassFile.FieldType)) prog_11_method_3_code) = true := by decide +kernel
theorem a_v133 : a_vmt a_e133 = true := a_vmk a_vh133 rfl rfl rfl rfl a_vr133
theorem a_vh134 : a_vmh a_e134 = true := by decide +kernel
theorem a_vr134 : a_c134.all (a_vrow "WashAndDry$Turns" ((Option.none : Option Jvm.ClassFile.FieldType)) prog_11_method_4_code) = true := by decide +kernel
theorem a_v134 : a_vmt a_e134 = true := a_vmk a_vh134 rfl rfl rfl rfl a_vr134
theorem a_vh135 : a_vmh a_e135 = true := by decide +kernel
theorem a_vr135 : a_c135.all (a_vrow "WashAndDry$Turns" ((Option.none : Option Jvm.ClassFile.FieldType)) prog_11_method_5_code) = true := by decide +kernel
theorem a_v135 : a_vmt a_e135 = true := a_vmk a_vh135 rfl rfl rfl rfl a_vr135
theorem a_vh136 : a_vmh a_e136 = true := by decide +kernel
theorem a_vr136 : a_c136.all (a_vrow "WashAndDry$Turns" ((Option.some Jvm.ClassFile.FieldType.int)) prog_11_method_6_code) = true := by decide +kernel
theorem a_v136 : a_vmt a_e136 = true := a_vmk a_vh136 rfl rfl rfl rfl a_vr136
theorem a_vh137 : a_vmh a_e137 = true := by decide +kernel
theorem a_vr137 : a_c137.all (a_vrow "WashAndDry$Turns" ((Option.none : Option Jvm.ClassFile.FieldType)) prog_11_method_7_code) = true := by decide +kernel
theorem a_v137 : a_vmt a_e137 = true := a_vmk a_vh137 rfl rfl rfl rfl a_vr137
theorem a_vh138 : a_vmh a_e138 = true := by decide +kernel
theorem a_vr138 : a_c138.all (a_vrow "WashAndDry$Turns" ((Option.some Jvm.ClassFile.FieldType.int)) prog_11_method_8_code) = true := by decide +kernel
theorem a_v138 : a_vmt a_e138 = true := a_vmk a_vh138 rfl rfl rfl rfl a_vr138
theorem a_vh139 : a_vmh a_e139 = true := by decide +kernel
theorem a_vr139 : a_c139.all (a_vrow "WashAndDry$Turns" ((Option.none : Option Jvm.ClassFile.FieldType)) prog_11_method_9_code) = true := by decide +kernel
theorem a_v139 : a_vmt a_e139 = true := a_vmk a_vh139 rfl rfl rfl rfl a_vr139
theorem a_vh140 : a_vmh a_e140 = true := by decide +kernel
theorem a_vr140 : a_c140.all (a_vrow "WashAndDry$Turns" ((Option.some Jvm.ClassFile.FieldType.int)) prog_11_method_10_code) = true := by decide +kernel
theorem a_v140 : a_vmt a_e140 = true := a_vmk a_vh140 rfl rfl rfl rfl a_vr140
theorem a_vh141 : a_vmh a_e141 = true := by decide +kernel
theorem a_vr141 : a_c141.all (a_vrow "WashAndDry$Turns" ((Option.some Jvm.ClassFile.FieldType.int)) prog_11_method_11_code) = true := by decide +kernel
theorem a_v141 : a_vmt a_e141 = true := a_vmk a_vh141 rfl rfl rfl rfl a_vr141
theorem a_vh142 : a_vmh a_e142 = true := by decide +kernel
theorem a_vr142 : a_c142.all (a_vrow "WashAndDry$Undos" ((Option.none : Option Jvm.ClassFile.FieldType)) prog_12_method_2_code) = true := by decide +kernel
theorem a_v142 : a_vmt a_e142 = true := a_vmk a_vh142 rfl rfl rfl rfl a_vr142
theorem a_vh143 : a_vmh a_e143 = true := by decide +kernel
theorem a_vr143 : a_c143.all (a_vrow "WashAndDry$Undos" ((Option.none : Option Jvm.ClassFile.FieldType)) prog_12_method_3_code) = true := by decide +kernel
theorem a_v143 : a_vmt a_e143 = true := a_vmk a_vh143 rfl rfl rfl rfl a_vr143
theorem a_vh144 : a_vmh a_e144 = true := by decide +kernel
theorem a_vr144 : a_c144.all (a_vrow "WashAndDry$Undos" ((Option.none : Option Jvm.ClassFile.FieldType)) prog_12_method_4_code) = true := by decide +kernel
theorem a_v144 : a_vmt a_e144 = true := a_vmk a_vh144 rfl rfl rfl rfl a_vr144
theorem a_vh145 : a_vmh a_e145 = true := by decide +kernel
theorem a_vr145 : a_c145.all (a_vrow "WashAndDry$Undos" ((Option.some (Jvm.ClassFile.FieldType.object "WashAndDry$Order"))) prog_12_method_5_code) = true := by decide +kernel
theorem a_v145 : a_vmt a_e145 = true := a_vmk a_vh145 rfl rfl rfl rfl a_vr145
theorem a_vh146 : a_vmh a_e146 = true := by decide +kernel
theorem a_vr146 : a_c146.all (a_vrow "WashAndDryModel" ((Option.some Jvm.ClassFile.FieldType.int)) prog_14_method_2_code) = true := by decide +kernel
theorem a_v146 : a_vmt a_e146 = true := a_vmk a_vh146 rfl rfl rfl rfl a_vr146
theorem a_vh147 : a_vmh a_e147 = true := by decide +kernel
theorem a_vr147 : a_c147.all (a_vrow "WashAndDryModel" ((Option.some Jvm.ClassFile.FieldType.int)) prog_14_method_3_code) = true := by decide +kernel
theorem a_v147 : a_vmt a_e147 = true := a_vmk a_vh147 rfl rfl rfl rfl a_vr147
theorem a_vh148 : a_vmh a_e148 = true := by decide +kernel
theorem a_vr148 : a_c148.all (a_vrow "WashAndDryModel" ((Option.some Jvm.ClassFile.FieldType.boolean)) prog_14_method_4_code) = true := by decide +kernel
theorem a_v148 : a_vmt a_e148 = true := a_vmk a_vh148 rfl rfl rfl rfl a_vr148
theorem a_vh149 : a_vmh a_e149 = true := by decide +kernel
theorem a_vr149 : a_c149.all (a_vrow "WashAndDryModel" ((Option.some Jvm.ClassFile.FieldType.int)) prog_14_method_5_code) = true := by decide +kernel
theorem a_v149 : a_vmt a_e149 = true := a_vmk a_vh149 rfl rfl rfl rfl a_vr149
theorem a_vh150 : a_vmh a_e150 = true := by decide +kernel
theorem a_vr150 : a_c150.all (a_vrow "WashAndDryModel" ((Option.some Jvm.ClassFile.FieldType.boolean)) prog_14_method_6_code) = true := by decide +kernel
theorem a_v150 : a_vmt a_e150 = true := a_vmk a_vh150 rfl rfl rfl rfl a_vr150
theorem a_vh151 : a_vmh a_e151 = true := by decide +kernel
theorem a_vr151 : a_c151.all (a_vrow "WashAndDryModel" ((Option.some Jvm.ClassFile.FieldType.int)) prog_14_method_7_code) = true := by decide +kernel
theorem a_v151 : a_vmt a_e151 = true := a_vmk a_vh151 rfl rfl rfl rfl a_vr151
theorem a_vh152 : a_vmh a_e152 = true := by decide +kernel
theorem a_vr152 : a_c152.all (a_vrow "WashAndDryModel" ((Option.some Jvm.ClassFile.FieldType.int)) prog_14_method_8_code) = true := by decide +kernel
theorem a_v152 : a_vmt a_e152 = true := a_vmk a_vh152 rfl rfl rfl rfl a_vr152
theorem a_vh153 : a_vmh a_e153 = true := by decide +kernel
theorem a_vr153 : a_c153.all (a_vrow "WashAndDryModel" ((Option.some Jvm.ClassFile.FieldType.int)) prog_14_method_9_code) = true := by decide +kernel
theorem a_v153 : a_vmt a_e153 = true := a_vmk a_vh153 rfl rfl rfl rfl a_vr153
