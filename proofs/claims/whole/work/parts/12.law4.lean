theorem okL_60 : iOkC iProg mL_law 60 = true := by decide +kernel
theorem okL_61 : iOkC iProg mL_law 61 = true := by decide +kernel
theorem okL_62 : iOkC iProg mL_law 62 = true := by decide +kernel
theorem okL_63 : iOkC iProg mL_law 63 = true := by decide +kernel
theorem okL_64 : iOkC iProg mL_law 64 = true := by decide +kernel
theorem okL_65 : iOkC iProg mL_law 65 = true := by decide +kernel
theorem okL_66 : iOkC iProg mL_law 66 = true := by decide +kernel
theorem okL_67 : iOkC iProg mL_law 67 = true := by decide +kernel
theorem okL_68 : iOkC iProg mL_law 68 = true := by decide +kernel
theorem okL_69 : iOkC iProg mL_law 69 = true := by decide +kernel
theorem okL_70 : iOkC iProg mL_law 70 = true := by decide +kernel
theorem okL_71 : iOkC iProg mL_law 71 = true := by decide +kernel
theorem okL_72 : iOkC iProg mL_law 72 = true := by decide +kernel
theorem okL_73 : iOkC iProg mL_law 73 = true := by decide +kernel
theorem okL_74 : iOkC iProg mL_law 74 = true := by decide +kernel
theorem okL_75 : iOkC iProg mL_law 75 = true := by decide +kernel
theorem okL_76 : iOkC iProg mL_law 76 = true := by decide +kernel
theorem okL_77 : iOkC iProg mL_law 77 = true := by decide +kernel
theorem okL_78 : iOkC iProg mL_law 78 = true := by decide +kernel
theorem okL_79 : iOkC iProg mL_law 79 = true := by decide +kernel
theorem ok_law : iOkT iProg mL_law = true := by
  apply iOkC_all
  intro k hk
  have hk : k < 80 := hk
  match k, hk with
  | 0, _ => exact okL_0
  | 1, _ => exact okL_1
  | 2, _ => exact okL_2
  | 3, _ => exact okL_3
  | 4, _ => exact okL_4
  | 5, _ => exact okL_5
  | 6, _ => exact okL_6
  | 7, _ => exact okL_7
  | 8, _ => exact okL_8
  | 9, _ => exact okL_9
  | 10, _ => exact okL_10
  | 11, _ => exact okL_11
  | 12, _ => exact okL_12
  | 13, _ => exact okL_13
  | 14, _ => exact okL_14
  | 15, _ => exact okL_15
  | 16, _ => exact okL_16
  | 17, _ => exact okL_17
  | 18, _ => exact okL_18
  | 19, _ => exact okL_19
  | 20, _ => exact okL_20
  | 21, _ => exact okL_21
  | 22, _ => exact okL_22
  | 23, _ => exact okL_23
  | 24, _ => exact okL_24
  | 25, _ => exact okL_25
  | 26, _ => exact okL_26
  | 27, _ => exact okL_27
  | 28, _ => exact okL_28
  | 29, _ => exact okL_29
  | 30, _ => exact okL_30
  | 31, _ => exact okL_31
  | 32, _ => exact okL_32
  | 33, _ => exact okL_33
  | 34, _ => exact okL_34
  | 35, _ => exact okL_35
  | 36, _ => exact okL_36
  | 37, _ => exact okL_37
  | 38, _ => exact okL_38
  | 39, _ => exact okL_39
  | 40, _ => exact okL_40
  | 41, _ => exact okL_41
  | 42, _ => exact okL_42
  | 43, _ => exact okL_43
  | 44, _ => exact okL_44
  | 45, _ => exact okL_45
  | 46, _ => exact okL_46
  | 47, _ => exact okL_47
  | 48, _ => exact okL_48
  | 49, _ => exact okL_49
  | 50, _ => exact okL_50
  | 51, _ => exact okL_51
  | 52, _ => exact okL_52
  | 53, _ => exact okL_53
  | 54, _ => exact okL_54
  | 55, _ => exact okL_55
  | 56, _ => exact okL_56
  | 57, _ => exact okL_57
  | 58, _ => exact okL_58
  | 59, _ => exact okL_59
  | 60, _ => exact okL_60
  | 61, _ => exact okL_61
  | 62, _ => exact okL_62
  | 63, _ => exact okL_63
  | 64, _ => exact okL_64
  | 65, _ => exact okL_65
  | 66, _ => exact okL_66
  | 67, _ => exact okL_67
  | 68, _ => exact okL_68
  | 69, _ => exact okL_69
  | 70, _ => exact okL_70
  | 71, _ => exact okL_71
  | 72, _ => exact okL_72
  | 73, _ => exact okL_73
  | 74, _ => exact okL_74
  | 75, _ => exact okL_75
  | 76, _ => exact okL_76
  | 77, _ => exact okL_77
  | 78, _ => exact okL_78
  | 79, _ => exact okL_79
  | k + 80, hk => exact absurd hk (by omega)
