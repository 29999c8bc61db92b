theorem a_vh0 : a_vmh a_e0 = true := by decide +kernel
theorem a_vr0 : a_c0.all (a_vrow "WashAndDry" ((Option.some Jvm.ClassFile.FieldType.int)) prog_1_method_2_code) = true := by decide +kernel
theorem a_v0 : a_vmt a_e0 = true := a_vmk a_vh0 rfl rfl rfl rfl a_vr0
theorem a_vh1 : a_vmh a_e1 = true := by decide +kernel
theorem a_vr1 : a_c1.all (a_vrow "WashAndDry" ((Option.some Jvm.ClassFile.FieldType.int)) prog_1_method_3_code) = true := by decide +kernel
theorem a_v1 : a_vmt a_e1 = true := a_vmk a_vh1 rfl rfl rfl rfl a_vr1
theorem a_vh2 : a_vmh a_e2 = true := by decide +kernel
theorem a_vr2 : a_c2.all (a_vrow "WashAndDry" ((Option.some Jvm.ClassFile.FieldType.int)) prog_1_method_4_code) = true := by decide +kernel
theorem a_v2 : a_vmt a_e2 = true := a_vmk a_vh2 rfl rfl rfl rfl a_vr2
theorem a_vh3 : a_vmh a_e3 = true := by decide +kernel
theorem a_vr3 : a_c3.all (a_vrow "WashAndDry" ((Option.some Jvm.ClassFile.FieldType.int)) prog_1_method_5_code) = true := by decide +kernel
theorem a_v3 : a_vmt a_e3 = true := a_vmk a_vh3 rfl rfl rfl rfl a_vr3
theorem a_vh4 : a_vmh a_e4 = true := by decide +kernel
theorem a_vr4 : a_c4.all (a_vrow "WashAndDry" ((Option.some Jvm.ClassFile.FieldType.int)) prog_1_method_6_code) = true := by decide +kernel
theorem a_v4 : a_vmt a_e4 = true := a_vmk a_vh4 rfl rfl rfl rfl a_vr4
theorem a_vh5 : a_vmh a_e5 = true := by decide +kernel
theorem a_vr5 : a_c5.all (a_vrow "WashAndDry" ((Option.some Jvm.ClassFile.FieldType.int)) prog_1_method_7_code) = true := by decide +kernel
theorem a_v5 : a_vmt a_e5 = true := a_vmk a_vh5 rfl rfl rfl rfl a_vr5
theorem a_vh6 : a_vmh a_e6 = true := by decide +kernel
theorem a_vr6 : a_c6.all (a_vrow "WashAndDry" ((Option.some Jvm.ClassFile.FieldType.int)) prog_1_method_8_code) = true := by decide +kernel
theorem a_v6 : a_vmt a_e6 = true := a_vmk a_vh6 rfl rfl rfl rfl a_vr6
theorem a_vh7 : a_vmh a_e7 = true := by decide +kernel
theorem a_vr7 : a_c7.all (a_vrow "WashAndDry" ((Option.some Jvm.ClassFile.FieldType.int)) prog_1_method_9_code) = true := by decide +kernel
theorem a_v7 : a_vmt a_e7 = true := a_vmk a_vh7 rfl rfl rfl rfl a_vr7
theorem a_vh8 : a_vmh a_e8 = true := by decide +kernel
theorem a_vr8 : a_c8.all (a_vrow "WashAndDry" ((Option.some Jvm.ClassFile.FieldType.int)) prog_1_method_10_code) = true := by decide +kernel
theorem a_v8 : a_vmt a_e8 = true := a_vmk a_vh8 rfl rfl rfl rfl a_vr8
theorem a_vh9 : a_vmh a_e9 = true := by decide +kernel
theorem a_vr9 : a_c9.all (a_vrow "WashAndDry" ((Option.some Jvm.ClassFile.FieldType.int)) prog_1_method_11_code) = true := by decide +kernel
theorem a_v9 : a_vmt a_e9 = true := a_vmk a_vh9 rfl rfl rfl rfl a_vr9
theorem a_vh10 : a_vmh a_e10 = true := by decide +kernel
theorem a_vr10 : a_c10.all (a_vrow "WashAndDry" ((Option.some Jvm.ClassFile.FieldType.int)) prog_1_method_12_code) = true := by decide +kernel
theorem a_v10 : a_vmt a_e10 = true := a_vmk a_vh10 rfl rfl rfl rfl a_vr10
theorem a_vh11 : a_vmh a_e11 = true := by decide +kernel
theorem a_vr11 : a_c11.all (a_vrow "WashAndDry" ((Option.some Jvm.ClassFile.FieldType.int)) prog_1_method_13_code) = true := by decide +kernel
theorem a_v11 : a_vmt a_e11 = true := a_vmk a_vh11 rfl rfl rfl rfl a_vr11
theorem a_vh12 : a_vmh a_e12 = true := by decide +kernel
theorem a_vr12 : a_c12.all (a_vrow "WashAndDry" ((Option.some Jvm.ClassFile.FieldType.int)) prog_1_method_14_code) = true := by decide +kernel
theorem a_v12 : a_vmt a_e12 = true := a_vmk a_vh12 rfl rfl rfl rfl a_vr12
theorem a_vh13 : a_vmh a_e13 = true := by decide +kernel
theorem a_vr13 : a_c13.all (a_vrow "WashAndDry" ((Option.some Jvm.ClassFile.FieldType.int)) prog_1_method_15_code) = true := by decide +kernel
theorem a_v13 : a_vmt a_e13 = true := a_vmk a_vh13 rfl rfl rfl rfl a_vr13
theorem a_vh14 : a_vmh a_e14 = true := by decide +kernel
theorem a_vr14 : a_c14.all (a_vrow "WashAndDry" ((Option.some Jvm.ClassFile.FieldType.int)) prog_1_method_16_code) = true := by decide +kernel
theorem a_v14 : a_vmt a_e14 = true := a_vmk a_vh14 rfl rfl rfl rfl a_vr14
theorem a_vh15 : a_vmh a_e15 = true := by decide +kernel
theorem a_vr15 : a_c15.all (a_vrow "WashAndDry" ((Option.some Jvm.ClassFile.FieldType.int)) prog_1_method_17_code) = true := by decide +kernel
theorem a_v15 : a_vmt a_e15 = true := a_vmk a_vh15 rfl rfl rfl rfl a_vr15
theorem a_vh16 : a_vmh a_e16 = true := by decide +kernel
theorem a_vr16 : a_c16.all (a_vrow "WashAndDry" ((Option.some Jvm.ClassFile.FieldType.int)) prog_1_method_18_code) = true := by decide +kernel
theorem a_v16 : a_vmt a_e16 = true := a_vmk a_vh16 rfl rfl rfl rfl a_vr16
theorem a_vh17 : a_vmh a_e17 = true := by decide +kernel
theorem a_vr17 : a_c17.all (a_vrow "WashAndDry" ((Option.some Jvm.ClassFile.FieldType.int)) prog_1_method_19_code) = true := by decide +kernel
theorem a_v17 : a_vmt a_e17 = true := a_vmk a_vh17 rfl rfl rfl rfl a_vr17
theorem a_vh18 : a_vmh a_e18 = true := by decide +kernel
theorem a_vr18 : a_c18.all (a_vrow "WashAndDry" ((Option.some Jvm.ClassFile.FieldType.int)) prog_1_method_20_code) = true := by decide +kernel
theorem a_v18 : a_vmt a_e18 = true := a_vmk a_vh18 rfl rfl rfl rfl a_vr18
theorem a_vh19 : a_vmh a_e19 = true := by decide +kernel
theorem a_vr19 : a_c19.all (a_vrow "WashAndDry" ((Option.some Jvm.ClassFile.FieldType.int)) prog_1_method_21_code) = true := by decide +kernel
theorem a_v19 : a_vmt a_e19 = true := a_vmk a_vh19 rfl rfl rfl rfl a_vr19
theorem a_vh20 : a_vmh a_e20 = true := by decide +kernel
theorem a_vr20 : a_c20.all (a_vrow "WashAndDry" ((Option.some Jvm.ClassFile.FieldType.int)) prog_1_method_22_code) = true := by decide +kernel
theorem a_v20 : a_vmt a_e20 = true := a_vmk a_vh20 rfl rfl rfl rfl a_vr20
theorem a_vh21 : a_vmh a_e21 = true := by decide +kernel
theorem a_vr21 : a_c21.all (a_vrow "WashAndDry" ((Option.some Jvm.ClassFile.FieldType.int)) prog_1_method_23_code) = true := by decide +kernel
theorem a_v21 : a_vmt a_e21 = true := a_vmk a_vh21 rfl rfl rfl rfl a_vr21
theorem a_vh22 : a_vmh a_e22 = true := by decide +kernel
theorem a_vr22 : a_c22.all (a_vrow "WashAndDry" ((Option.some Jvm.ClassFile.FieldType.int)) prog_1_method_24_code) = true := by decide +kernel
theorem a_v22 : a_vmt a_e22 = true := a_vmk a_vh22 rfl rfl rfl rfl a_vr22
theorem a_vh23 : a_vmh a_e23 = true := by decide +kernel
theorem a_vr23 : a_c23.all (a_vrow "WashAndDry" ((Option.some Jvm.ClassFile.FieldType.int)) prog_1_method_25_code) = true := by decide +kernel
theorem a_v23 : a_vmt a_e23 = true := a_vmk a_vh23 rfl rfl rfl rfl a_vr23
theorem a_vh24 : a_vmh a_e24 = true := by decide +kernel
theorem a_vr24 : a_c24.all (a_vrow "WashAndDry" ((Option.some Jvm.ClassFile.FieldType.int)) prog_1_method_26_code) = true := by decide +kernel
theorem a_v24 : a_vmt a_e24 = true := a_vmk a_vh24 rfl rfl rfl rfl a_vr24
theorem a_vh25 : a_vmh a_e25 = true := by decide +kernel
theorem a_vr25 : a_c25.all (a_vrow "WashAndDry" ((Option.some Jvm.ClassFile.FieldType.int)) prog_1_method_27_code) = true := by decide +kernel
theorem a_v25 : a_vmt a_e25 = true := a_vmk a_vh25 rfl rfl rfl rfl a_vr25
theorem a_vh26 : a_vmh a_e26 = true := by decide +kernel
theorem a_vr26 : a_c26.all (a_vrow "WashAndDry" ((Option.some Jvm.ClassFile.FieldType.int)) prog_1_method_28_code) = true := by decide +kernel
theorem a_v26 : a_vmt a_e26 = true := a_vmk a_vh26 rfl rfl rfl rfl a_vr26
theorem a_vh27 : a_vmh a_e27 = true := by decide +kernel
theorem a_vr27 : a_c27.all (a_vrow "WashAndDry" ((Option.some Jvm.ClassFile.FieldType.int)) prog_1_method_29_code) = true := by decide +kernel
theorem a_v27 : a_vmt a_e27 = true := a_vmk a_vh27 rfl rfl rfl rfl a_vr27
theorem a_vh28 : a_vmh a_e28 = true := by decide +kernel
theorem a_vr28 : a_c28.all (a_vrow "WashAndDry" ((Option.some Jvm.ClassFile.FieldType.int)) prog_1_method_30_code) = true := by decide +kernel
theorem a_v28 : a_vmt a_e28 = true := a_vmk a_vh28 rfl rfl rfl rfl a_vr28
theorem a_vh29 : a_vmh a_e29 = true := by decide +kernel
theorem a_vr29 : a_c29.all (a_vrow "WashAndDry" ((Option.some Jvm.ClassFile.FieldType.int)) prog_1_method_31_code) = true := by decide +kernel
theorem a_v29 : a_vmt a_e29 = true := a_vmk a_vh29 rfl rfl rfl rfl a_vr29
theorem a_vh30 : a_vmh a_e30 = true := by decide +kernel
theorem a_vr30 : a_c30.all (a_vrow "WashAndDry" ((Option.some Jvm.ClassFile.FieldType.int)) prog_1_method_32_code) = true := by decide +kernel
theorem a_v30 : a_vmt a_e30 = true := a_vmk a_vh30 rfl rfl rfl rfl a_vr30
theorem a_vh31 : a_vmh a_e31 = true := by decide +kernel
theorem a_vr31 : a_c31.all (a_vrow "WashAndDry" ((Option.some Jvm.ClassFile.FieldType.int)) prog_1_method_33_code) = true := by decide +kernel
theorem a_v31 : a_vmt a_e31 = true := a_vmk a_vh31 rfl rfl rfl rfl a_vr31
theorem a_vh32 : a_vmh a_e32 = true := by decide +kernel
theorem a_vr32 : a_c32.all (a_vrow "WashAndDry" ((Option.some Jvm.ClassFile.FieldType.int)) prog_1_method_34_code) = true := by decide +kernel
theorem a_v32 : a_vmt a_e32 = true := a_vmk a_vh32 rfl rfl rfl rfl a_vr32
theorem a_vh33 : a_vmh a_e33 = true := by decide +kernel
theorem a_vr33 : a_c33.all (a_vrow "WashAndDry" ((Option.some Jvm.ClassFile.FieldType.int)) prog_1_method_35_code) = true := by decide +kernel
theorem a_v33 : a_vmt a_e33 = true := a_vmk a_vh33 rfl rfl rfl rfl a_vr33
theorem a_vh34 : a_vmh a_e34 = true := by decide +kernel
theorem a_vr34 : a_c34.all (a_vrow "WashAndDry" ((Option.some Jvm.ClassFile.FieldType.int)) prog_1_method_36_code) = true := by decide +kernel
theorem a_v34 : a_vmt a_e34 = true := a_vmk a_vh34 rfl rfl rfl rfl a_vr34
theorem a_vh35 : a_vmh a_e35 = true := by decide +kernel
theorem a_vr35 : a_c35.all (a_vrow "WashAndDry" ((Option.some Jvm.ClassFile.FieldType.int)) prog_1_method_37_code) = true := by decide +kernel
theorem a_v35 : a_vmt a_e35 = true := a_vmk a_vh35 rfl rfl rfl rfl a_vr35
theorem a_vh36 : a_vmh a_e36 = true := by decide +kernel
theorem a_vr36 : a_c36.all (a_vrow "WashAndDry" ((Option.some Jvm.ClassFile.FieldType.int)) prog_1_method_38_code) = true := by decide +kernel
theorem a_v36 : a_vmt a_e36 = true := a_vmk a_vh36 rfl rfl rfl rfl a_vr36
theorem a_vh37 : a_vmh a_e37 = true := by decide +kernel
theorem a_vr37 : a_c37.all (a_vrow "WashAndDry" ((Option.some Jvm.ClassFile.FieldType.int)) prog_1_method_39_code) = true := by decide +kernel
theorem a_v37 : a_vmt a_e37 = true := a_vmk a_vh37 rfl rfl rfl rfl a_vr37
theorem a_vh38 : a_vmh a_e38 = true := by decide +kernel
theorem a_vr38 : a_c38.all (a_vrow "WashAndDry" ((Option.some Jvm.ClassFile.FieldType.int)) prog_1_method_40_code) = true := by decide +kernel
theorem a_v38 : a_vmt a_e38 = true := a_vmk a_vh38 rfl rfl rfl rfl a_vr38
theorem a_vh39 : a_vmh a_e39 = true := by decide +kernel
theorem a_vr39 : a_c39.all (a_vrow "WashAndDry" ((Option.some Jvm.ClassFile.FieldType.int)) prog_1_method_41_code) = true := by decide +kernel
theorem a_v39 : a_vmt a_e39 = true := a_vmk a_vh39 rfl rfl rfl rfl a_vr39
theorem a_vh40 : a_vmh a_e40 = true := by decide +kernel
theorem a_vr40 : a_c40.all (a_vrow "WashAndDry" ((Option.some Jvm.ClassFile.FieldType.int)) prog_1_method_42_code) = true := by decide +kernel
theorem a_v40 : a_vmt a_e40 = true := a_vmk a_vh40 rfl rfl rfl rfl a_vr40
theorem a_vh41 : a_vmh a_e41 = true := by decide +kernel
theorem a_vr41 : a_c41.all (a_vrow "WashAndDry" ((Option.some Jvm.ClassFile.FieldType.int)) prog_1_method_43_code) = true := by decide +kernel
theorem a_v41 : a_vmt a_e41 = true := a_vmk a_vh41 rfl rfl rfl rfl a_vr41
theorem a_vh42 : a_vmh a_e42 = true := by decide +kernel
theorem a_vr42 : a_c42.all (a_vrow "WashAndDry" ((Option.some Jvm.ClassFile.FieldType.int)) prog_1_method_44_code) = true := by decide +kernel
theorem a_v42 : a_vmt a_e42 = true := a_vmk a_vh42 rfl rfl rfl rfl a_vr42
theorem a_vh43 : a_vmh a_e43 = true := by decide +kernel
theorem a_vr43 : a_c43.all (a_vrow "WashAndDry" ((Option.some Jvm.ClassFile.FieldType.int)) prog_1_method_45_code) = true := by decide +kernel
theorem a_v43 : a_vmt a_e43 = true := a_vmk a_vh43 rfl rfl rfl rfl a_vr43
theorem a_vh44 : a_vmh a_e44 = true := by decide +kernel
theorem a_vr44 : a_c44.all (a_vrow "WashAndDry" ((Option.some Jvm.ClassFile.FieldType.int)) prog_1_method_46_code) = true := by decide +kernel
theorem a_v44 : a_vmt a_e44 = true := a_vmk a_vh44 rfl rfl rfl rfl a_vr44
theorem a_vh45 : a_vmh a_e45 = true := by decide +kernel
theorem a_vr45 : a_c45.all (a_vrow "WashAndDry" ((Option.some Jvm.ClassFile.FieldType.boolean)) prog_1_method_47_code) = true := by decide +kernel
theorem a_v45 : a_vmt a_e45 = true := a_vmk a_vh45 rfl rfl rfl rfl a_vr45
theorem a_vh46 : a_vmh a_e46 = true := by decide +kernel
theorem a_vr46 : a_c46.all (a_vrow "WashAndDry" ((Option.some Jvm.ClassFile.FieldType.boolean)) prog_1_method_48_code) = true := by decide +kernel
theorem a_v46 : a_vmt a_e46 = true := a_vmk a_vh46 rfl rfl rfl rfl a_vr46
theorem a_vh47 : a_vmh a_e47 = true := by decide +kernel
theorem a_vr47 : a_c47.all (a_vrow "WashAndDry" ((Option.some Jvm.ClassFile.FieldType.boolean)) prog_1_method_49_code) = true := by decide +kernel
theorem a_v47 : a_vmt a_e47 = true := a_vmk a_vh47 rfl rfl rfl rfl a_vr47
theorem a_vh48 : a_vmh a_e48 = true := by decide +kernel
theorem a_vr48 : a_c48.all (a_vrow "WashAndDry" ((Option.some Jvm.ClassFile.FieldType.boolean)) prog_1_method_50_code) = true := by decide +kernel
theorem a_v48 : a_vmt a_e48 = true := a_vmk a_vh48 rfl rfl rfl rfl a_vr48
theorem a_vh49 : a_vmh a_e49 = true := by decide +kernel
theorem a_vr49 : a_c49.all (a_vrow "WashAndDry" ((Option.none : Option Jvm.ClassFile.FieldType)) prog_1_method_51_code) = true := by decide +kernel
theorem a_v49 : a_vmt a_e49 = true := a_vmk a_vh49 rfl rfl rfl rfl a_vr49
theorem a_vh50 : a_vmh a_e50 = true := by decide +kernel
theorem a_vr50 : a_c50.all (a_vrow "WashAndDry$Best" ((Option.none : Option Jvm.ClassFile.FieldType)) prog_2_method_2_code) = true := by decide +kernel
theorem a_v50 : a_vmt a_e50 = true := a_vmk a_vh50 rfl rfl rfl rfl a_vr50
theorem a_vh51 : a_vmh a_e51 = true := by decide +kernel
theorem a_vr51 : a_c51.all (a_vrow "WashAndDry$Best" ((Option.none : Option Jvm.ClassFile.FieldType)) prog_2_method_3_code) = true := by decide +kernel
theorem a_v51 : a_vmt a_e51 = true := a_vmk a_vh51 rfl rfl rfl rfl a_vr51
theorem a_vh52 : a_vmh a_e52 = true := by decide +kernel
theorem a_vr52 : a_c52.all (a_vrow "WashAndDry$Best" ((Option.some Jvm.ClassFile.FieldType.int)) prog_2_method_4_code) = true := by decide +kernel
theorem a_v52 : a_vmt a_e52 = true := a_vmk a_vh52 rfl rfl rfl rfl a_vr52
theorem a_vh53 : a_vmh a_e53 = true := by decide +kernel
theorem a_vr53 : a_c53.all (a_vrow "WashAndDry$Evening" ((Option.none : Option Jvm.ClassFile.FieldType)) prog_3_method_2_code) = true := by decide +kernel
theorem a_v53 : a_vmt a_e53 = true := a_vmk a_vh53 rfl rfl rfl rfl a_vr53
theorem a_vh54 : a_vmh a_e54 = true := by decide +kernel
theorem a_vr54 : a_c54.all (a_vrow "WashAndDry$Evening" ((Option.some Jvm.ClassFile.FieldType.int)) prog_3_method_3_code) = true := by decide +kernel
theorem a_v54 : a_vmt a_e54 = true := a_vmk a_vh54 rfl rfl rfl rfl a_vr54
theorem a_vh55 : a_vmh a_e55 = true := by decide +kernel
theorem a_vr55 : a_c55.all (a_vrow "WashAndDry$Evening" ((Option.some Jvm.ClassFile.FieldType.int)) prog_3_method_4_code) = true := by decide +kernel
theorem a_v55 : a_vmt a_e55 = true := a_vmk a_vh55 rfl rfl rfl rfl a_vr55
theorem a_vh56 : a_vmh a_e56 = true := by decide +kernel
theorem a_vr56 : a_c56.all (a_vrow "WashAndDry$Evening" ((Option.some Jvm.ClassFile.FieldType.int)) prog_3_method_5_code) = true := by decide +kernel
theorem a_v56 : a_vmt a_e56 = true := a_vmk a_vh56 rfl rfl rfl rfl a_vr56
theorem a_vh57 : a_vmh a_e57 = true := by decide +kernel
theorem a_vr57 : a_c57.all (a_vrow "WashAndDry$Evening" ((Option.some Jvm.ClassFile.FieldType.int)) prog_3_method_6_code) = true := by decide +kernel
theorem a_v57 : a_vmt a_e57 = true := a_vmk a_vh57 rfl rfl rfl rfl a_vr57
theorem a_vh58 : a_vmh a_e58 = true := by decide +kernel
theorem a_vr58 : a_c58.all (a_vrow "WashAndDry$Evening" ((Option.none : Option Jvm.ClassFile.FieldType)) prog_3_method_7_code) = true := by decide +kernel
theorem a_v58 : a_vmt a_e58 = true := a_vmk a_vh58 rfl rfl rfl rfl a_vr58
theorem a_vh59 : a_vmh a_e59 = true := by decide +kernel
theorem a_vr59 : a_c59.all (a_vrow "WashAndDry$Evening" ((Option.none : Option Jvm.ClassFile.FieldType)) prog_3_method_8_code) = true := by decide +kernel
theorem a_v59 : a_vmt a_e59 = true := a_vmk a_vh59 rfl rfl rfl rfl a_vr59
theorem a_vh60 : a_vmh a_e60 = true := by decide +kernel
theorem a_vr60 : a_c60.all (a_vrow "WashAndDry$Evening" ((Option.none : Option Jvm.ClassFile.FieldType)) prog_3_method_9_code) = true := by decide +kernel
theorem a_v60 : a_vmt a_e60 = true := a_vmk a_vh60 rfl rfl rfl rfl a_vr60
theorem a_vh61 : a_vmh a_e61 = true := by decide +kernel
theorem a_vr61 : a_c61.all (a_vrow "WashAndDry$Evening" ((Option.none : Option Jvm.ClassFile.FieldType)) prog_3_method_10_code) = true := by decide +kernel
theorem a_v61 : a_vmt a_e61 = true := a_vmk a_vh61 rfl rfl rfl rfl a_vr61
theorem a_vh62 : a_vmh a_e62 = true := by decide +kernel
theorem a_vr62 : a_c62.all (a_vrow "WashAndDry$Evening" ((Option.some Jvm.ClassFile.FieldType.int)) prog_3_method_11_code) = true := by decide +kernel
theorem a_v62 : a_vmt a_e62 = true := a_vmk a_vh62 rfl rfl rfl rfl a_vr62
theorem a_vh63 : a_vmh a_e63 = true := by decide +kernel
theorem a_vr63 : a_c63.all (a_vrow "WashAndDry$Evening" ((Option.none : Option Jvm.ClassFile.FieldType)) prog_3_method_12_code) = true := by decide +kernel
theorem a_v63 : a_vmt a_e63 = true := a_vmk a_vh63 rfl rfl rfl rfl a_vr63
theorem a_vh64 : a_vmh a_e64 = true := by decide +kernel
theorem a_vr64 : a_c64.all (a_vrow "WashAndDry$Evening" ((Option.none : Option Jvm.ClassFile.FieldType)) prog_3_method_13_code) = true := by decide +kernel
theorem a_v64 : a_vmt a_e64 = true := a_vmk a_vh64 rfl rfl rfl rfl a_vr64
theorem a_vh65 : a_vmh a_e65 = true := by decide +kernel
theorem a_vr65 : a_c65.all (a_vrow "WashAndDry$Hands" ((Option.none : Option Jvm.ClassFile.FieldType)) prog_4_method_2_code) = true := by decide +kernel
theorem a_v65 : a_vmt a_e65 = true := a_vmk a_vh65 rfl rfl rfl rfl a_vr65
theorem a_vh66 : a_vmh a_e66 = true := by decide +kernel
theorem a_vr66 : a_c66.all (a_vrow "WashAndDry$Hands" ((Option.some Jvm.ClassFile.FieldType.int)) prog_4_method_3_code) = true := by decide +kernel
theorem a_v66 : a_vmt a_e66 = true := a_vmk a_vh66 rfl rfl rfl rfl a_vr66
theorem a_vh67 : a_vmh a_e67 = true := by decide +kernel
theorem a_vr67 : a_c67.all (a_vrow "WashAndDry$Hands" ((Option.none : Option Jvm.ClassFile.FieldType)) prog_4_method_4_code) = true := by decide +kernel
theorem a_v67 : a_vmt a_e67 = true := a_vmk a_vh67 rfl rfl rfl rfl a_vr67
theorem a_vh68 : a_vmh a_e68 = true := by decide +kernel
theorem a_vr68 : a_c68.all (a_vrow "WashAndDry$Hands" ((Option.some Jvm.ClassFile.FieldType.int)) prog_4_method_5_code) = true := by decide +kernel
theorem a_v68 : a_vmt a_e68 = true := a_vmk a_vh68 rfl rfl rfl rfl a_vr68
theorem a_vh69 : a_vmh a_e69 = true := by decide +kernel
theorem a_vr69 : a_c69.all (a_vrow "WashAndDry$Hands" ((Option.none : Option Jvm.ClassFile.FieldType)) prog_4_method_6_code) = true := by decide +kernel
theorem a_v69 : a_vmt a_e69 = true := a_vmk a_vh69 rfl rfl rfl rfl a_vr69
theorem a_vh70 : a_vmh a_e70 = true := by decide +kernel
theorem a_vr70 : a_c70.all (a_vrow "WashAndDry$Hands" ((Option.some Jvm.ClassFile.FieldType.int)) prog_4_method_7_code) = true := by decide +kernel
theorem a_v70 : a_vmt a_e70 = true := a_vmk a_vh70 rfl rfl rfl rfl a_vr70
theorem a_vh71 : a_vmh a_e71 = true := by decide +kernel
theorem a_vr71 : a_c71.all (a_vrow "WashAndDry$Hands" ((Option.none : Option Jvm.ClassFile.FieldType)) prog_4_method_8_code) = true := by decide +kernel
theorem a_v71 : a_vmt a_e71 = true := a_vmk a_vh71 rfl rfl rfl rfl a_vr71
