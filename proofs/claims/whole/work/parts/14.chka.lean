/-! ===== THE TABLES ARE RIGHT: every instruction decodes so, every word stands in the claim's tables ===== -/
def zchk1 (r : zRec) (i : Nat) (ch : List (Option zOp)) : Bool := ch.zipIdx.all (fun x => match x.1 with | none => true | some op => zokD r (32 * i + x.2) op && zokS r (32 * i + x.2) op && zokX zR zN r (32 * i + x.2) op)
def zall (r : zRec) (i0 : Nat) (t : List (List (Option zOp))) : Bool := (t.zipIdx i0).all (fun x => zchk1 r x.2 x.1)
theorem zall_fet {r : zRec} {t : List (List (Option zOp))} (h : zall r 0 t = true) {pc : Nat} {op : zOp} (hf : zfet t pc = some op) : zokD r pc op = true ∧ zokS r pc op = true ∧ zokX zR zN r pc op = true := by
  unfold zfet at hf
  split at hf
  · rename_i c hc
    split at hf
    · rename_i op1 ho
      cases hf
      unfold zall at h
      have h1 := List.all_eq_true.mp h (c, pc / 32) (List.mem_of_getElem? (i := pc / 32) (by rw [List.getElem?_zipIdx, hc]; simp))
      unfold zchk1 at h1
      have h2 := List.all_eq_true.mp h1 (some op, pc % 32) (List.mem_of_getElem? (i := pc % 32) (by rw [List.getElem?_zipIdx, ho]; simp))
      simp only [Bool.and_eq_true] at h2
      rw [show 32 * (pc / 32) + pc % 32 = pc by omega] at h2
      exact ⟨h2.1.1, h2.1.2, h2.2⟩
    · cases hf
  · cases hf
theorem zall_app {r : zRec} {a b : List (List (Option zOp))} {i n : Nat} (hn : a.length = n) (h1 : zall r i a = true) (h2 : zall r (i + n) b = true) : zall r i (a ++ b) = true := by
  unfold zall at *
  rw [List.zipIdx_append, List.all_append, h1, hn, h2]
  rfl
theorem zc_0 : zall zr_0 0 zt_0 = true := by decide +kernel
theorem zc_1 : zall zr_1 0 zt_1 = true := by decide +kernel
theorem zc_2 : zall zr_2 0 zt_2 = true := by decide +kernel
theorem zc_3 : zall zr_3 0 zt_3 = true := by decide +kernel
theorem zc_4 : zall zr_4 0 zt_4 = true := by decide +kernel
theorem zc_5 : zall zr_5 0 zt_5 = true := by decide +kernel
theorem zc_6 : zall zr_6 0 zt_6 = true := by decide +kernel
theorem zc_7 : zall zr_7 0 zt_7 = true := by decide +kernel
theorem zc_8 : zall zr_8 0 zt_8 = true := by decide +kernel
theorem zc_9 : zall zr_9 0 zt_9 = true := by decide +kernel
theorem zc_10 : zall zr_10 0 zt_10 = true := by decide +kernel
theorem zc_11 : zall zr_11 0 zt_11 = true := by decide +kernel
theorem zc_12 : zall zr_12 0 zt_12 = true := by decide +kernel
theorem zc_13 : zall zr_13 0 zt_13 = true := by decide +kernel
theorem zc_14 : zall zr_14 0 zt_14 = true := by decide +kernel
theorem zc_15 : zall zr_15 0 zt_15 = true := by decide +kernel
theorem zc_16 : zall zr_16 0 zt_16 = true := by decide +kernel
theorem zc_17 : zall zr_17 0 zt_17 = true := by decide +kernel
theorem zc_18 : zall zr_18 0 zt_18 = true := by decide +kernel
theorem zc_19 : zall zr_19 0 zt_19 = true := by decide +kernel
theorem zc_20 : zall zr_20 0 zt_20 = true := by decide +kernel
theorem zc_21 : zall zr_21 0 zt_21 = true := by decide +kernel
theorem zc_22 : zall zr_22 0 zt_22 = true := by decide +kernel
theorem zc_23 : zall zr_23 0 zt_23 = true := by decide +kernel
theorem zc_24 : zall zr_24 0 zt_24 = true := by decide +kernel
theorem zc_25 : zall zr_25 0 zt_25 = true := by decide +kernel
theorem zc_26 : zall zr_26 0 zt_26 = true := by decide +kernel
theorem zc_27 : zall zr_27 0 zt_27 = true := by decide +kernel
theorem zc_28 : zall zr_28 0 zt_28 = true := by decide +kernel
theorem zc_29 : zall zr_29 0 zt_29 = true := by decide +kernel
theorem zc_30 : zall zr_30 0 zt_30 = true := by decide +kernel
theorem zc_31 : zall zr_31 0 zt_31 = true := by decide +kernel
theorem zc_32 : zall zr_32 0 zt_32 = true := by decide +kernel
theorem zc_33 : zall zr_33 0 zt_33 = true := by decide +kernel
theorem zc_34 : zall zr_34 0 zt_34 = true := by decide +kernel
theorem zc_35 : zall zr_35 0 zt_35 = true := by decide +kernel
theorem zc_36 : zall zr_36 0 zt_36 = true := by decide +kernel
theorem zc_37 : zall zr_37 0 zt_37 = true := by decide +kernel
theorem zc_38 : zall zr_38 0 zt_38 = true := by decide +kernel
theorem zc_39 : zall zr_39 0 zt_39 = true := by decide +kernel
theorem zc_40 : zall zr_40 0 zt_40 = true := by decide +kernel
theorem zc_41 : zall zr_41 0 zt_41 = true := by decide +kernel
theorem zc_42 : zall zr_42 0 zt_42 = true := by decide +kernel
theorem zc_43 : zall zr_43 0 zt_43 = true := by decide +kernel
theorem zc_44 : zall zr_44 0 zt_44 = true := by decide +kernel
theorem zc_45 : zall zr_45 0 zt_45 = true := by decide +kernel
theorem zc_46 : zall zr_46 0 zt_46 = true := by decide +kernel
theorem zc_47 : zall zr_47 0 zt_47 = true := by decide +kernel
theorem zc_48 : zall zr_48 0 zt_48 = true := by decide +kernel
theorem zc_49 : zall zr_49 0 zt_49 = true := by decide +kernel
theorem zc_50 : zall zr_50 0 zt_50 = true := by decide +kernel
theorem zc_51 : zall zr_51 0 zt_51 = true := by decide +kernel
theorem zc_52 : zall zr_52 0 zt_52 = true := by decide +kernel
theorem zc_53 : zall zr_53 0 zt_53 = true := by decide +kernel
theorem zc_54 : zall zr_54 0 zt_54 = true := by decide +kernel
theorem zc_55 : zall zr_55 0 zt_55 = true := by decide +kernel
theorem zc_56 : zall zr_56 0 zt_56 = true := by decide +kernel
theorem zc_57 : zall zr_57 0 zt_57 = true := by decide +kernel
theorem zc_58 : zall zr_58 0 zt_58 = true := by decide +kernel
theorem zc_59 : zall zr_59 0 zt_59 = true := by decide +kernel
theorem zc_60 : zall zr_60 0 zt_60 = true := by decide +kernel
theorem zc_61 : zall zr_61 0 zt_61 = true := by decide +kernel
theorem zc_62 : zall zr_62 0 zt_62 = true := by decide +kernel
theorem zc_63 : zall zr_63 0 zt_63 = true := by decide +kernel
theorem zc_64 : zall zr_64 0 zt_64 = true := by decide +kernel
theorem zc_65 : zall zr_65 0 zt_65 = true := by decide +kernel
theorem zc_66 : zall zr_66 0 zt_66 = true := by decide +kernel
theorem zc_67 : zall zr_67 0 zt_67 = true := by decide +kernel
theorem zc_68 : zall zr_68 0 zt_68 = true := by decide +kernel
theorem zc_69 : zall zr_69 0 zt_69 = true := by decide +kernel
theorem zc_70 : zall zr_70 0 zt_70 = true := by decide +kernel
theorem zc_71 : zall zr_71 0 zt_71 = true := by decide +kernel
theorem zc_72 : zall zr_72 0 zt_72 = true := by decide +kernel
theorem zc_73 : zall zr_73 0 zt_73 = true := by decide +kernel
theorem zc_74 : zall zr_74 0 zt_74 = true := by decide +kernel
theorem zc_75 : zall zr_75 0 zt_75 = true := by decide +kernel
theorem zc_76 : zall zr_76 0 zt_76 = true := by decide +kernel
theorem zc_77 : zall zr_77 0 zt_77 = true := by decide +kernel
theorem zc_78 : zall zr_78 0 zt_78 = true := by decide +kernel
theorem zc_79 : zall zr_79 0 zt_79 = true := by decide +kernel
theorem zc_80 : zall zr_80 0 zt_80 = true := by decide +kernel
theorem zc_81 : zall zr_81 0 zt_81 = true := by decide +kernel
theorem zc_82 : zall zr_82 0 zt_82 = true := by decide +kernel
theorem zc_83 : zall zr_83 0 zt_83 = true := by decide +kernel
theorem zc_84 : zall zr_84 0 zt_84 = true := by decide +kernel
theorem zc_85 : zall zr_85 0 zt_85 = true := by decide +kernel
theorem zc_86 : zall zr_86 0 zt_86 = true := by decide +kernel
theorem zc_87 : zall zr_87 0 zt_87 = true := by decide +kernel
theorem zc_88 : zall zr_88 0 zt_88 = true := by decide +kernel
theorem zc_89 : zall zr_89 0 zt_89 = true := by decide +kernel
theorem zc_90 : zall zr_90 0 zt_90 = true := by decide +kernel
theorem zc_91 : zall zr_91 0 zt_91 = true := by decide +kernel
theorem zc_92 : zall zr_92 0 zt_92 = true := by decide +kernel
theorem zc_93 : zall zr_93 0 zt_93 = true := by decide +kernel
theorem zc_94 : zall zr_94 0 zt_94 = true := by decide +kernel
theorem zc_95 : zall zr_95 0 zt_95 = true := by decide +kernel
theorem zc_96 : zall zr_96 0 zt_96 = true := by decide +kernel
theorem zc_97 : zall zr_97 0 zt_97 = true := by decide +kernel
theorem zc_98 : zall zr_98 0 zt_98 = true := by decide +kernel
theorem zc_99 : zall zr_99 0 zt_99 = true := by decide +kernel
theorem zc_100 : zall zr_100 0 zt_100 = true := by decide +kernel
theorem zc_101 : zall zr_101 0 zt_101 = true := by decide +kernel
theorem zc_102 : zall zr_102 0 zt_102 = true := by decide +kernel
theorem zc_103 : zall zr_103 0 zt_103 = true := by decide +kernel
theorem zc_104 : zall zr_104 0 zt_104 = true := by decide +kernel
theorem zc_105 : zall zr_105 0 zt_105 = true := by decide +kernel
theorem zc_106 : zall zr_106 0 zt_106 = true := by decide +kernel
theorem zc_107 : zall zr_107 0 zt_107 = true := by decide +kernel
theorem zc_108 : zall zr_108 0 zt_108 = true := by decide +kernel
theorem zc_109 : zall zr_109 0 zt_109 = true := by decide +kernel
theorem zc_110 : zall zr_110 0 zt_110 = true := by decide +kernel
theorem zc_111 : zall zr_111 0 zt_111 = true := by decide +kernel
theorem zc_112 : zall zr_112 0 zt_112 = true := by decide +kernel
theorem zc_113 : zall zr_113 0 zt_113 = true := by decide +kernel
theorem zc_114 : zall zr_114 0 zt_114 = true := by decide +kernel
theorem zc_115 : zall zr_115 0 zt_115 = true := by decide +kernel
theorem zc_116 : zall zr_116 0 zt_116 = true := by decide +kernel
theorem zc_117 : zall zr_117 0 zt_117 = true := by decide +kernel
theorem zc_118 : zall zr_118 0 zt_118 = true := by decide +kernel
theorem zc_119 : zall zr_119 0 zt_119 = true := by decide +kernel
theorem zc_120 : zall zr_120 0 zt_120 = true := by decide +kernel
theorem zc_121 : zall zr_121 0 zt_121 = true := by decide +kernel
theorem zc_122 : zall zr_122 0 zt_122 = true := by decide +kernel
theorem zc_123 : zall zr_123 0 zt_123 = true := by decide +kernel
theorem zc_124 : zall zr_124 0 zt_124 = true := by decide +kernel
theorem zc_125 : zall zr_125 0 zt_125 = true := by decide +kernel
theorem zc_126 : zall zr_126 0 zt_126 = true := by decide +kernel
theorem zc_127 : zall zr_127 0 zt_127 = true := by decide +kernel
theorem zc_128 : zall zr_128 0 zt_128 = true := by decide +kernel
