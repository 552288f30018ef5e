theorem tb_0 {w : Cond} (h : w ∈ tables_1) : w ∈ lw_tbl := List.mem_append_right _ h
theorem tb_1 {w : Cond} (h : w ∈ tables_1_1) : w ∈ lw_tbl := tb_0 (show w ∈ tables_1_1 ++ (tables_1_2 ++ (tables_1_3 ++ (tables_1_4 ++ (tables_1_5 ++ (tables_1_6 ++ (tables_1_7 ++ tables_1_8)))))) from (List.mem_append_left _ h))
theorem tb_2 {w : Cond} (h : w ∈ tables_1_2) : w ∈ lw_tbl := tb_0 (show w ∈ tables_1_1 ++ (tables_1_2 ++ (tables_1_3 ++ (tables_1_4 ++ (tables_1_5 ++ (tables_1_6 ++ (tables_1_7 ++ tables_1_8)))))) from (List.mem_append_right _ (List.mem_append_left _ h)))
theorem tb_3 {w : Cond} (h : w ∈ tables_1_3) : w ∈ lw_tbl := tb_0 (show w ∈ tables_1_1 ++ (tables_1_2 ++ (tables_1_3 ++ (tables_1_4 ++ (tables_1_5 ++ (tables_1_6 ++ (tables_1_7 ++ tables_1_8)))))) from (List.mem_append_right _ (List.mem_append_right _ (List.mem_append_left _ h))))
theorem tb_4 {w : Cond} (h : w ∈ tables_1_4) : w ∈ lw_tbl := tb_0 (show w ∈ tables_1_1 ++ (tables_1_2 ++ (tables_1_3 ++ (tables_1_4 ++ (tables_1_5 ++ (tables_1_6 ++ (tables_1_7 ++ tables_1_8)))))) from (List.mem_append_right _ (List.mem_append_right _ (List.mem_append_right _ (List.mem_append_left _ h)))))
theorem tb_5 {w : Cond} (h : w ∈ tables_1_5) : w ∈ lw_tbl := tb_0 (show w ∈ tables_1_1 ++ (tables_1_2 ++ (tables_1_3 ++ (tables_1_4 ++ (tables_1_5 ++ (tables_1_6 ++ (tables_1_7 ++ tables_1_8)))))) from (List.mem_append_right _ (List.mem_append_right _ (List.mem_append_right _ (List.mem_append_right _ (List.mem_append_left _ h))))))
theorem tb_6 {w : Cond} (h : w ∈ tables_1_6) : w ∈ lw_tbl := tb_0 (show w ∈ tables_1_1 ++ (tables_1_2 ++ (tables_1_3 ++ (tables_1_4 ++ (tables_1_5 ++ (tables_1_6 ++ (tables_1_7 ++ tables_1_8)))))) from (List.mem_append_right _ (List.mem_append_right _ (List.mem_append_right _ (List.mem_append_right _ (List.mem_append_right _ (List.mem_append_left _ h)))))))
theorem tb_7 {w : Cond} (h : w ∈ tables_1_7) : w ∈ lw_tbl := tb_0 (show w ∈ tables_1_1 ++ (tables_1_2 ++ (tables_1_3 ++ (tables_1_4 ++ (tables_1_5 ++ (tables_1_6 ++ (tables_1_7 ++ tables_1_8)))))) from (List.mem_append_right _ (List.mem_append_right _ (List.mem_append_right _ (List.mem_append_right _ (List.mem_append_right _ (List.mem_append_right _ (List.mem_append_left _ h))))))))
theorem tb_8 {w : Cond} (h : w ∈ tables_1_8) : w ∈ lw_tbl := tb_0 (show w ∈ tables_1_1 ++ (tables_1_2 ++ (tables_1_3 ++ (tables_1_4 ++ (tables_1_5 ++ (tables_1_6 ++ (tables_1_7 ++ tables_1_8)))))) from (List.mem_append_right _ (List.mem_append_right _ (List.mem_append_right _ (List.mem_append_right _ (List.mem_append_right _ (List.mem_append_right _ (List.mem_append_right _ h))))))))
theorem pr_1 {q : MethodName × Nat} (h : q ∈ lw_privs_1) : Cond.selects q.1.cls q.1 q.1 ∈ lw_tbl := List.mem_append_left _ (List.mem_map.mpr ⟨q, (show q ∈ lw_privs_1 ++ (lw_privs_2 ++ (lw_privs_3 ++ (lw_privs_4 ++ (lw_privs_5 ++ (lw_privs_6))))) from (List.mem_append_left _ h)), rfl⟩)
theorem pr_2 {q : MethodName × Nat} (h : q ∈ lw_privs_2) : Cond.selects q.1.cls q.1 q.1 ∈ lw_tbl := List.mem_append_left _ (List.mem_map.mpr ⟨q, (show q ∈ lw_privs_1 ++ (lw_privs_2 ++ (lw_privs_3 ++ (lw_privs_4 ++ (lw_privs_5 ++ (lw_privs_6))))) from (List.mem_append_right _ (List.mem_append_left _ h))), rfl⟩)
theorem pr_3 {q : MethodName × Nat} (h : q ∈ lw_privs_3) : Cond.selects q.1.cls q.1 q.1 ∈ lw_tbl := List.mem_append_left _ (List.mem_map.mpr ⟨q, (show q ∈ lw_privs_1 ++ (lw_privs_2 ++ (lw_privs_3 ++ (lw_privs_4 ++ (lw_privs_5 ++ (lw_privs_6))))) from (List.mem_append_right _ (List.mem_append_right _ (List.mem_append_left _ h)))), rfl⟩)
theorem pr_4 {q : MethodName × Nat} (h : q ∈ lw_privs_4) : Cond.selects q.1.cls q.1 q.1 ∈ lw_tbl := List.mem_append_left _ (List.mem_map.mpr ⟨q, (show q ∈ lw_privs_1 ++ (lw_privs_2 ++ (lw_privs_3 ++ (lw_privs_4 ++ (lw_privs_5 ++ (lw_privs_6))))) from (List.mem_append_right _ (List.mem_append_right _ (List.mem_append_right _ (List.mem_append_left _ h))))), rfl⟩)
theorem pr_5 {q : MethodName × Nat} (h : q ∈ lw_privs_5) : Cond.selects q.1.cls q.1 q.1 ∈ lw_tbl := List.mem_append_left _ (List.mem_map.mpr ⟨q, (show q ∈ lw_privs_1 ++ (lw_privs_2 ++ (lw_privs_3 ++ (lw_privs_4 ++ (lw_privs_5 ++ (lw_privs_6))))) from (List.mem_append_right _ (List.mem_append_right _ (List.mem_append_right _ (List.mem_append_right _ (List.mem_append_left _ h)))))), rfl⟩)
theorem pr_6 {q : MethodName × Nat} (h : q ∈ lw_privs_6) : Cond.selects q.1.cls q.1 q.1 ∈ lw_tbl := List.mem_append_left _ (List.mem_map.mpr ⟨q, (show q ∈ lw_privs_1 ++ (lw_privs_2 ++ (lw_privs_3 ++ (lw_privs_4 ++ (lw_privs_5 ++ (lw_privs_6))))) from (List.mem_append_right _ (List.mem_append_right _ (List.mem_append_right _ (List.mem_append_right _ (List.mem_append_right _ h)))))), rfl⟩)
theorem fg_RX0_11 : FG RX0 11 0 0 2 := ⟨⟨_, rfl, by decide, (tb_2 (List.mem_of_getElem? (i := 24) (by decide +kernel)))⟩, by decide, rfl⟩
theorem fg_RX0_15 : FG RX0 15 0 3 2 := ⟨⟨_, rfl, by decide, (tb_2 (List.mem_of_getElem? (i := 28) (by decide +kernel)))⟩, by decide, rfl⟩
theorem fg_RX0_18 : FG RX0 18 0 1 2 := ⟨⟨_, rfl, by decide, (tb_2 (List.mem_of_getElem? (i := 26) (by decide +kernel)))⟩, by decide, rfl⟩
theorem fg_RX0_22 : FG RX0 22 0 2 2 := ⟨⟨_, rfl, by decide, (tb_2 (List.mem_of_getElem? (i := 27) (by decide +kernel)))⟩, by decide, rfl⟩
theorem fg_RX0_26 : FG RX0 26 1 5 2 := ⟨⟨_, rfl, by decide, (tb_1 (List.mem_of_getElem? (i := 167) (by decide +kernel)))⟩, by decide, rfl⟩
theorem fg_RX0_36 : FG RX0 36 1 1 0 := ⟨⟨_, rfl, by decide, (tb_1 (List.mem_of_getElem? (i := 148) (by decide +kernel)))⟩, by decide, rfl⟩
theorem fg_RX0_44 : FG RX0 44 7 4 0 := ⟨⟨_, rfl, by decide, (tb_1 (List.mem_of_getElem? (i := 128) (by decide +kernel)))⟩, by decide, rfl⟩
theorem fg_RX0_55 : FG RX0 55 7 0 2 := ⟨⟨_, rfl, by decide, (tb_1 (List.mem_of_getElem? (i := 107) (by decide +kernel)))⟩, by decide, rfl⟩
theorem fg_RX0_59 : FG RX0 59 10 0 2 := ⟨⟨_, rfl, by decide, (tb_1 (List.mem_of_getElem? (i := 85) (by decide +kernel)))⟩, by decide, rfl⟩
theorem fg_RX0_64 : FG RX0 64 10 3 2 := ⟨⟨_, rfl, by decide, (tb_1 (List.mem_of_getElem? (i := 95) (by decide +kernel)))⟩, by decide, rfl⟩
theorem fg_RX0_71 : FG RX0 71 7 2 0 := ⟨⟨_, rfl, by decide, (tb_1 (List.mem_of_getElem? (i := 120) (by decide +kernel)))⟩, by decide, rfl⟩
theorem fg_RX0_74 : FG RX0 74 1 4 2 := ⟨⟨_, rfl, by decide, (tb_1 (List.mem_of_getElem? (i := 163) (by decide +kernel)))⟩, by decide, rfl⟩
theorem fg_RX0_77 : FG RX0 77 5 1 0 := ⟨⟨_, rfl, by decide, (tb_1 (List.mem_of_getElem? (i := 236) (by decide +kernel)))⟩, by decide, rfl⟩
theorem fg_RX0_82 : FG RX0 82 5 2 2 := ⟨⟨_, rfl, by decide, (tb_1 (List.mem_of_getElem? (i := 239) (by decide +kernel)))⟩, by decide, rfl⟩
theorem fg_RX0_85 : FG RX0 85 10 1 2 := ⟨⟨_, rfl, by decide, (tb_1 (List.mem_of_getElem? (i := 90) (by decide +kernel)))⟩, by decide, rfl⟩
theorem fg_RX0_108 : FG RX0 108 7 1 2 := ⟨⟨_, rfl, by decide, (tb_1 (List.mem_of_getElem? (i := 115) (by decide +kernel)))⟩, by decide, rfl⟩
theorem fg_RX0_111 : FG RX0 111 7 3 0 := ⟨⟨_, rfl, by decide, (tb_1 (List.mem_of_getElem? (i := 124) (by decide +kernel)))⟩, by decide, rfl⟩
theorem fg_RX0_114 : FG RX0 114 1 2 2 := ⟨⟨_, rfl, by decide, (tb_1 (List.mem_of_getElem? (i := 153) (by decide +kernel)))⟩, by decide, rfl⟩
theorem fg_RX1_9 : FG RX1 9 1 0 0 := ⟨⟨_, rfl, by decide, (tb_1 (List.mem_of_getElem? (i := 142) (by decide +kernel)))⟩, by decide, rfl⟩
theorem fg_RX1_15 : FG RX1 15 1 1 0 := ⟨⟨_, rfl, by decide, (tb_1 (List.mem_of_getElem? (i := 147) (by decide +kernel)))⟩, by decide, rfl⟩
theorem fg_RX1_18 : FG RX1 18 1 2 2 := ⟨⟨_, rfl, by decide, (tb_1 (List.mem_of_getElem? (i := 152) (by decide +kernel)))⟩, by decide, rfl⟩
theorem fg_RX1_22 : FG RX1 22 1 3 2 := ⟨⟨_, rfl, by decide, (tb_1 (List.mem_of_getElem? (i := 157) (by decide +kernel)))⟩, by decide, rfl⟩
theorem fg_RX1_25 : FG RX1 25 1 4 2 := ⟨⟨_, rfl, by decide, (tb_1 (List.mem_of_getElem? (i := 162) (by decide +kernel)))⟩, by decide, rfl⟩
theorem fg_RX1_31 : FG RX1 31 1 5 2 := ⟨⟨_, rfl, by decide, (tb_1 (List.mem_of_getElem? (i := 166) (by decide +kernel)))⟩, by decide, rfl⟩
theorem fg_RX1_45 : FG RX1 45 7 1 2 := ⟨⟨_, rfl, by decide, (tb_1 (List.mem_of_getElem? (i := 116) (by decide +kernel)))⟩, by decide, rfl⟩
theorem fg_RX1_55 : FG RX1 55 7 0 2 := ⟨⟨_, rfl, by decide, (tb_1 (List.mem_of_getElem? (i := 110) (by decide +kernel)))⟩, by decide, rfl⟩
theorem fg_RX1_59 : FG RX1 59 10 0 2 := ⟨⟨_, rfl, by decide, (tb_1 (List.mem_of_getElem? (i := 87) (by decide +kernel)))⟩, by decide, rfl⟩
theorem fg_RX1_64 : FG RX1 64 10 3 2 := ⟨⟨_, rfl, by decide, (tb_1 (List.mem_of_getElem? (i := 96) (by decide +kernel)))⟩, by decide, rfl⟩
theorem fg_RX1_71 : FG RX1 71 10 2 2 := ⟨⟨_, rfl, by decide, (tb_1 (List.mem_of_getElem? (i := 93) (by decide +kernel)))⟩, by decide, rfl⟩
theorem fg_RX1_74 : FG RX1 74 10 1 2 := ⟨⟨_, rfl, by decide, (tb_1 (List.mem_of_getElem? (i := 91) (by decide +kernel)))⟩, by decide, rfl⟩
theorem fg_RX1_85 : FG RX1 85 7 3 0 := ⟨⟨_, rfl, by decide, (tb_1 (List.mem_of_getElem? (i := 125) (by decide +kernel)))⟩, by decide, rfl⟩
theorem fg_RX10_18 : FG RX10 18 10 0 2 := ⟨⟨_, rfl, by decide, (tb_1 (List.mem_of_getElem? (i := 83) (by decide +kernel)))⟩, by decide, rfl⟩
theorem fg_RX10_24 : FG RX10 24 10 1 2 := ⟨⟨_, rfl, by decide, (tb_1 (List.mem_of_getElem? (i := 89) (by decide +kernel)))⟩, by decide, rfl⟩
theorem fg_RX10_27 : FG RX10 27 10 2 2 := ⟨⟨_, rfl, by decide, (tb_1 (List.mem_of_getElem? (i := 92) (by decide +kernel)))⟩, by decide, rfl⟩
theorem fg_RX10_30 : FG RX10 30 10 3 2 := ⟨⟨_, rfl, by decide, (tb_1 (List.mem_of_getElem? (i := 94) (by decide +kernel)))⟩, by decide, rfl⟩
theorem fg_RX11_10 : FG RX11 10 11 0 2 := ⟨⟨_, rfl, by decide, (tb_2 (List.mem_of_getElem? (i := 151) (by decide +kernel)))⟩, by decide, rfl⟩
theorem fg_RX11_21 : FG RX11 21 11 1 2 := ⟨⟨_, rfl, by decide, (tb_2 (List.mem_of_getElem? (i := 152) (by decide +kernel)))⟩, by decide, rfl⟩
theorem fg_RX11_28 : FG RX11 28 11 2 2 := ⟨⟨_, rfl, by decide, (tb_2 (List.mem_of_getElem? (i := 153) (by decide +kernel)))⟩, by decide, rfl⟩
theorem fg_RX11_35 : FG RX11 35 11 3 2 := ⟨⟨_, rfl, by decide, (tb_2 (List.mem_of_getElem? (i := 154) (by decide +kernel)))⟩, by decide, rfl⟩
theorem fg_RX11_42 : FG RX11 42 11 4 2 := ⟨⟨_, rfl, by decide, (tb_2 (List.mem_of_getElem? (i := 155) (by decide +kernel)))⟩, by decide, rfl⟩
theorem fg_RX11_51 : FG RX11 51 11 5 2 := ⟨⟨_, rfl, by decide, (tb_2 (List.mem_of_getElem? (i := 156) (by decide +kernel)))⟩, by decide, rfl⟩
theorem fg_RX11_55 : FG RX11 55 11 6 0 := ⟨⟨_, rfl, by decide, (tb_2 (List.mem_of_getElem? (i := 157) (by decide +kernel)))⟩, by decide, rfl⟩
theorem fg_RX11_64 : FG RX11 64 11 7 2 := ⟨⟨_, rfl, by decide, (tb_2 (List.mem_of_getElem? (i := 158) (by decide +kernel)))⟩, by decide, rfl⟩
theorem fg_RX11_71 : FG RX11 71 11 8 2 := ⟨⟨_, rfl, by decide, (tb_2 (List.mem_of_getElem? (i := 159) (by decide +kernel)))⟩, by decide, rfl⟩
theorem fg_RX11_80 : FG RX11 80 11 9 2 := ⟨⟨_, rfl, by decide, (tb_2 (List.mem_of_getElem? (i := 160) (by decide +kernel)))⟩, by decide, rfl⟩
theorem fg_RX11_87 : FG RX11 87 11 10 2 := ⟨⟨_, rfl, by decide, (tb_2 (List.mem_of_getElem? (i := 161) (by decide +kernel)))⟩, by decide, rfl⟩
theorem fg_RX11_91 : FG RX11 91 11 11 2 := ⟨⟨_, rfl, by decide, (tb_2 (List.mem_of_getElem? (i := 162) (by decide +kernel)))⟩, by decide, rfl⟩
theorem fg_RX11_98 : FG RX11 98 11 12 2 := ⟨⟨_, rfl, by decide, (tb_2 (List.mem_of_getElem? (i := 163) (by decide +kernel)))⟩, by decide, rfl⟩
theorem fg_RX11_102 : FG RX11 102 11 13 2 := ⟨⟨_, rfl, by decide, (tb_2 (List.mem_of_getElem? (i := 164) (by decide +kernel)))⟩, by decide, rfl⟩
theorem fg_RX11_106 : FG RX11 106 11 14 0 := ⟨⟨_, rfl, by decide, (tb_2 (List.mem_of_getElem? (i := 165) (by decide +kernel)))⟩, by decide, rfl⟩
theorem fg_RX11_110 : FG RX11 110 11 15 0 := ⟨⟨_, rfl, by decide, (tb_2 (List.mem_of_getElem? (i := 166) (by decide +kernel)))⟩, by decide, rfl⟩
theorem fg_RX11_113 : FG RX11 113 11 16 1 := ⟨⟨_, rfl, by decide, (tb_2 (List.mem_of_getElem? (i := 167) (by decide +kernel)))⟩, by decide, rfl⟩
theorem fg_RX11_121 : FG RX11 121 8 1 0 := ⟨⟨_, rfl, by decide, (tb_1 (List.mem_of_getElem? (i := 42) (by decide +kernel)))⟩, by decide, rfl⟩
theorem fg_RX11_137 : FG RX11 137 8 2 0 := ⟨⟨_, rfl, by decide, (tb_1 (List.mem_of_getElem? (i := 44) (by decide +kernel)))⟩, by decide, rfl⟩
theorem fg_RX11_147 : FG RX11 147 4 1 2 := ⟨⟨_, rfl, by decide, (tb_1 (List.mem_of_getElem? (i := 213) (by decide +kernel)))⟩, by decide, rfl⟩
theorem fg_RX11_150 : FG RX11 150 4 2 0 := ⟨⟨_, rfl, by decide, (tb_1 (List.mem_of_getElem? (i := 215) (by decide +kernel)))⟩, by decide, rfl⟩
theorem fg_RX11_157 : FG RX11 157 9 2 2 := ⟨⟨_, rfl, by decide, (tb_1 (List.mem_of_getElem? (i := 191) (by decide +kernel)))⟩, by decide, rfl⟩
theorem fg_RX11_164 : FG RX11 164 9 1 2 := ⟨⟨_, rfl, by decide, (tb_1 (List.mem_of_getElem? (i := 189) (by decide +kernel)))⟩, by decide, rfl⟩
theorem fg_RX11_174 : FG RX11 174 1 1 0 := ⟨⟨_, rfl, by decide, (tb_1 (List.mem_of_getElem? (i := 151) (by decide +kernel)))⟩, by decide, rfl⟩
theorem fg_RX11_177 : FG RX11 177 5 0 0 := ⟨⟨_, rfl, by decide, (tb_1 (List.mem_of_getElem? (i := 234) (by decide +kernel)))⟩, by decide, rfl⟩
theorem fg_RX11_193 : FG RX11 193 1 3 2 := ⟨⟨_, rfl, by decide, (tb_1 (List.mem_of_getElem? (i := 159) (by decide +kernel)))⟩, by decide, rfl⟩
theorem fg_RX11_202 : FG RX11 202 1 4 2 := ⟨⟨_, rfl, by decide, (tb_1 (List.mem_of_getElem? (i := 164) (by decide +kernel)))⟩, by decide, rfl⟩
theorem fg_RX11_205 : FG RX11 205 1 5 2 := ⟨⟨_, rfl, by decide, (tb_1 (List.mem_of_getElem? (i := 171) (by decide +kernel)))⟩, by decide, rfl⟩
theorem fg_RX11_208 : FG RX11 208 7 1 2 := ⟨⟨_, rfl, by decide, (tb_1 (List.mem_of_getElem? (i := 117) (by decide +kernel)))⟩, by decide, rfl⟩
theorem fg_RX11_211 : FG RX11 211 7 0 2 := ⟨⟨_, rfl, by decide, (tb_1 (List.mem_of_getElem? (i := 111) (by decide +kernel)))⟩, by decide, rfl⟩
theorem fg_RX11_214 : FG RX11 214 10 0 2 := ⟨⟨_, rfl, by decide, (tb_1 (List.mem_of_getElem? (i := 88) (by decide +kernel)))⟩, by decide, rfl⟩
theorem fg_RX11_223 : FG RX11 223 5 1 0 := ⟨⟨_, rfl, by decide, (tb_1 (List.mem_of_getElem? (i := 237) (by decide +kernel)))⟩, by decide, rfl⟩
theorem fg_RX11_230 : FG RX11 230 1 0 0 := ⟨⟨_, rfl, by decide, (tb_1 (List.mem_of_getElem? (i := 146) (by decide +kernel)))⟩, by decide, rfl⟩
theorem fg_RX11_233 : FG RX11 233 7 4 0 := ⟨⟨_, rfl, by decide, (tb_1 (List.mem_of_getElem? (i := 130) (by decide +kernel)))⟩, by decide, rfl⟩
theorem fg_RX11_236 : FG RX11 236 7 2 0 := ⟨⟨_, rfl, by decide, (tb_1 (List.mem_of_getElem? (i := 121) (by decide +kernel)))⟩, by decide, rfl⟩
theorem fg_RX11_239 : FG RX11 239 7 3 0 := ⟨⟨_, rfl, by decide, (tb_1 (List.mem_of_getElem? (i := 126) (by decide +kernel)))⟩, by decide, rfl⟩
theorem fg_RX11_242 : FG RX11 242 2 0 0 := ⟨⟨_, rfl, by decide, (tb_2 (List.mem_of_getElem? (i := 108) (by decide +kernel)))⟩, by decide, rfl⟩
theorem fg_RX11_250 : FG RX11 250 3 0 0 := ⟨⟨_, rfl, by decide, (tb_2 (List.mem_of_getElem? (i := 48) (by decide +kernel)))⟩, by decide, rfl⟩
theorem fg_RX11_294 : FG RX11 294 0 0 2 := ⟨⟨_, rfl, by decide, (tb_2 (List.mem_of_getElem? (i := 25) (by decide +kernel)))⟩, by decide, rfl⟩
theorem fg_RX11_306 : FG RX11 306 6 2 0 := ⟨⟨_, rfl, by decide, (tb_2 (List.mem_of_getElem? (i := 69) (by decide +kernel)))⟩, by decide, rfl⟩
theorem fg_RX11_309 : FG RX11 309 6 0 0 := ⟨⟨_, rfl, by decide, (tb_2 (List.mem_of_getElem? (i := 65) (by decide +kernel)))⟩, by decide, rfl⟩
theorem fg_RX11_312 : FG RX11 312 6 1 0 := ⟨⟨_, rfl, by decide, (tb_2 (List.mem_of_getElem? (i := 67) (by decide +kernel)))⟩, by decide, rfl⟩
theorem fg_RX12_9 : FG RX12 9 12 1 2 := ⟨⟨_, rfl, by decide, (tb_6 (List.mem_of_getElem? (i := 51) (by decide +kernel)))⟩, by decide, rfl⟩
theorem fg_RX12_13 : FG RX12 13 12 2 2 := ⟨⟨_, rfl, by decide, (tb_6 (List.mem_of_getElem? (i := 52) (by decide +kernel)))⟩, by decide, rfl⟩
theorem fg_RX12_16 : FG RX12 16 12 3 2 := ⟨⟨_, rfl, by decide, (tb_6 (List.mem_of_getElem? (i := 53) (by decide +kernel)))⟩, by decide, rfl⟩
theorem fg_RX12_20 : FG RX12 20 12 4 2 := ⟨⟨_, rfl, by decide, (tb_6 (List.mem_of_getElem? (i := 54) (by decide +kernel)))⟩, by decide, rfl⟩
theorem fg_RX12_23 : FG RX12 23 12 5 3 := ⟨⟨_, rfl, by decide, (tb_6 (List.mem_of_getElem? (i := 55) (by decide +kernel)))⟩, by decide, rfl⟩
theorem fg_RX12_37 : FG RX12 37 12 18 2 := ⟨⟨_, rfl, by decide, (tb_6 (List.mem_of_getElem? (i := 68) (by decide +kernel)))⟩, by decide, rfl⟩
theorem fg_RX12_40 : FG RX12 40 12 19 2 := ⟨⟨_, rfl, by decide, (tb_6 (List.mem_of_getElem? (i := 69) (by decide +kernel)))⟩, by decide, rfl⟩
theorem fg_RX12_43 : FG RX12 43 12 20 2 := ⟨⟨_, rfl, by decide, (tb_6 (List.mem_of_getElem? (i := 70) (by decide +kernel)))⟩, by decide, rfl⟩
theorem fg_RX12_46 : FG RX12 46 12 21 2 := ⟨⟨_, rfl, by decide, (tb_6 (List.mem_of_getElem? (i := 71) (by decide +kernel)))⟩, by decide, rfl⟩
theorem fg_RX12_52 : FG RX12 52 12 23 2 := ⟨⟨_, rfl, by decide, (tb_6 (List.mem_of_getElem? (i := 73) (by decide +kernel)))⟩, by decide, rfl⟩
theorem fg_RX12_55 : FG RX12 55 12 24 2 := ⟨⟨_, rfl, by decide, (tb_6 (List.mem_of_getElem? (i := 74) (by decide +kernel)))⟩, by decide, rfl⟩
theorem fg_RX12_58 : FG RX12 58 12 25 2 := ⟨⟨_, rfl, by decide, (tb_6 (List.mem_of_getElem? (i := 75) (by decide +kernel)))⟩, by decide, rfl⟩
theorem fg_RX12_61 : FG RX12 61 12 32 2 := ⟨⟨_, rfl, by decide, (tb_6 (List.mem_of_getElem? (i := 82) (by decide +kernel)))⟩, by decide, rfl⟩
theorem fg_RX12_64 : FG RX12 64 12 33 2 := ⟨⟨_, rfl, by decide, (tb_6 (List.mem_of_getElem? (i := 83) (by decide +kernel)))⟩, by decide, rfl⟩
theorem fg_RX12_67 : FG RX12 67 12 34 0 := ⟨⟨_, rfl, by decide, (tb_6 (List.mem_of_getElem? (i := 84) (by decide +kernel)))⟩, by decide, rfl⟩
theorem fg_RX12_71 : FG RX12 71 12 36 2 := ⟨⟨_, rfl, by decide, (tb_6 (List.mem_of_getElem? (i := 86) (by decide +kernel)))⟩, by decide, rfl⟩
theorem fg_RX12_74 : FG RX12 74 12 42 2 := ⟨⟨_, rfl, by decide, (tb_6 (List.mem_of_getElem? (i := 92) (by decide +kernel)))⟩, by decide, rfl⟩
theorem fg_RX12_77 : FG RX12 77 12 43 2 := ⟨⟨_, rfl, by decide, (tb_6 (List.mem_of_getElem? (i := 93) (by decide +kernel)))⟩, by decide, rfl⟩
theorem fg_RX12_80 : FG RX12 80 12 44 2 := ⟨⟨_, rfl, by decide, (tb_6 (List.mem_of_getElem? (i := 94) (by decide +kernel)))⟩, by decide, rfl⟩
theorem fg_RX12_84 : FG RX12 84 12 46 2 := ⟨⟨_, rfl, by decide, (tb_6 (List.mem_of_getElem? (i := 96) (by decide +kernel)))⟩, by decide, rfl⟩
theorem fg_RX12_88 : FG RX12 88 12 47 2 := ⟨⟨_, rfl, by decide, (tb_6 (List.mem_of_getElem? (i := 97) (by decide +kernel)))⟩, by decide, rfl⟩
theorem fg_RX12_91 : FG RX12 91 12 0 0 := ⟨⟨_, rfl, by decide, (tb_6 (List.mem_of_getElem? (i := 50) (by decide +kernel)))⟩, by decide, rfl⟩
theorem fg_RX12_104 : FG RX12 104 12 6 0 := ⟨⟨_, rfl, by decide, (tb_6 (List.mem_of_getElem? (i := 56) (by decide +kernel)))⟩, by decide, rfl⟩
theorem fg_RX12_114 : FG RX12 114 12 10 0 := ⟨⟨_, rfl, by decide, (tb_6 (List.mem_of_getElem? (i := 60) (by decide +kernel)))⟩, by decide, rfl⟩
theorem fg_RX12_117 : FG RX12 117 12 9 0 := ⟨⟨_, rfl, by decide, (tb_6 (List.mem_of_getElem? (i := 59) (by decide +kernel)))⟩, by decide, rfl⟩
theorem fg_RX12_120 : FG RX12 120 12 8 0 := ⟨⟨_, rfl, by decide, (tb_6 (List.mem_of_getElem? (i := 58) (by decide +kernel)))⟩, by decide, rfl⟩
theorem fg_RX12_123 : FG RX12 123 12 11 0 := ⟨⟨_, rfl, by decide, (tb_6 (List.mem_of_getElem? (i := 61) (by decide +kernel)))⟩, by decide, rfl⟩
theorem fg_RX12_126 : FG RX12 126 12 12 0 := ⟨⟨_, rfl, by decide, (tb_6 (List.mem_of_getElem? (i := 62) (by decide +kernel)))⟩, by decide, rfl⟩
theorem fg_RX12_192 : FG RX12 192 12 17 0 := ⟨⟨_, rfl, by decide, (tb_6 (List.mem_of_getElem? (i := 67) (by decide +kernel)))⟩, by decide, rfl⟩
theorem fg_RX12_196 : FG RX12 196 12 13 0 := ⟨⟨_, rfl, by decide, (tb_6 (List.mem_of_getElem? (i := 63) (by decide +kernel)))⟩, by decide, rfl⟩
theorem fg_RX12_199 : FG RX12 199 12 14 0 := ⟨⟨_, rfl, by decide, (tb_6 (List.mem_of_getElem? (i := 64) (by decide +kernel)))⟩, by decide, rfl⟩
theorem fg_RX12_244 : FG RX12 244 12 31 0 := ⟨⟨_, rfl, by decide, (tb_6 (List.mem_of_getElem? (i := 81) (by decide +kernel)))⟩, by decide, rfl⟩
theorem fg_RX12_247 : FG RX12 247 12 28 0 := ⟨⟨_, rfl, by decide, (tb_6 (List.mem_of_getElem? (i := 78) (by decide +kernel)))⟩, by decide, rfl⟩
theorem fg_RX12_250 : FG RX12 250 12 29 0 := ⟨⟨_, rfl, by decide, (tb_6 (List.mem_of_getElem? (i := 79) (by decide +kernel)))⟩, by decide, rfl⟩
theorem fg_RX12_286 : FG RX12 286 12 7 0 := ⟨⟨_, rfl, by decide, (tb_6 (List.mem_of_getElem? (i := 57) (by decide +kernel)))⟩, by decide, rfl⟩
theorem fg_RX12_289 : FG RX12 289 12 30 0 := ⟨⟨_, rfl, by decide, (tb_6 (List.mem_of_getElem? (i := 80) (by decide +kernel)))⟩, by decide, rfl⟩
theorem fg_RX12_294 : FG RX12 294 12 26 0 := ⟨⟨_, rfl, by decide, (tb_6 (List.mem_of_getElem? (i := 76) (by decide +kernel)))⟩, by decide, rfl⟩
theorem fg_RX12_297 : FG RX12 297 12 27 0 := ⟨⟨_, rfl, by decide, (tb_6 (List.mem_of_getElem? (i := 77) (by decide +kernel)))⟩, by decide, rfl⟩
theorem fg_RX12_304 : FG RX12 304 12 45 0 := ⟨⟨_, rfl, by decide, (tb_6 (List.mem_of_getElem? (i := 95) (by decide +kernel)))⟩, by decide, rfl⟩
theorem fg_RX12_307 : FG RX12 307 12 37 0 := ⟨⟨_, rfl, by decide, (tb_6 (List.mem_of_getElem? (i := 87) (by decide +kernel)))⟩, by decide, rfl⟩
theorem fg_RX12_310 : FG RX12 310 12 48 0 := ⟨⟨_, rfl, by decide, (tb_6 (List.mem_of_getElem? (i := 98) (by decide +kernel)))⟩, by decide, rfl⟩
theorem fg_RX12_369 : FG RX12 369 12 35 0 := ⟨⟨_, rfl, by decide, (tb_6 (List.mem_of_getElem? (i := 85) (by decide +kernel)))⟩, by decide, rfl⟩
theorem fg_RX12_389 : FG RX12 389 12 38 1 := ⟨⟨_, rfl, by decide, (tb_6 (List.mem_of_getElem? (i := 88) (by decide +kernel)))⟩, by decide, rfl⟩
theorem fg_RX12_400 : FG RX12 400 12 40 0 := ⟨⟨_, rfl, by decide, (tb_6 (List.mem_of_getElem? (i := 90) (by decide +kernel)))⟩, by decide, rfl⟩
theorem fg_RX12_403 : FG RX12 403 12 41 0 := ⟨⟨_, rfl, by decide, (tb_6 (List.mem_of_getElem? (i := 91) (by decide +kernel)))⟩, by decide, rfl⟩
theorem fg_RX12_406 : FG RX12 406 12 39 0 := ⟨⟨_, rfl, by decide, (tb_6 (List.mem_of_getElem? (i := 89) (by decide +kernel)))⟩, by decide, rfl⟩
theorem fg_RX2_9 : FG RX2 9 2 0 0 := ⟨⟨_, rfl, by decide, (tb_2 (List.mem_of_getElem? (i := 107) (by decide +kernel)))⟩, by decide, rfl⟩
theorem fg_RX2_15 : FG RX2 15 2 2 2 := ⟨⟨_, rfl, by decide, (tb_2 (List.mem_of_getElem? (i := 110) (by decide +kernel)))⟩, by decide, rfl⟩
theorem fg_RX2_19 : FG RX2 19 2 3 2 := ⟨⟨_, rfl, by decide, (tb_2 (List.mem_of_getElem? (i := 111) (by decide +kernel)))⟩, by decide, rfl⟩
theorem fg_RX2_22 : FG RX2 22 2 4 2 := ⟨⟨_, rfl, by decide, (tb_2 (List.mem_of_getElem? (i := 112) (by decide +kernel)))⟩, by decide, rfl⟩
theorem fg_RX2_26 : FG RX2 26 2 5 2 := ⟨⟨_, rfl, by decide, (tb_2 (List.mem_of_getElem? (i := 113) (by decide +kernel)))⟩, by decide, rfl⟩
theorem fg_RX2_29 : FG RX2 29 2 6 0 := ⟨⟨_, rfl, by decide, (tb_2 (List.mem_of_getElem? (i := 114) (by decide +kernel)))⟩, by decide, rfl⟩
theorem fg_RX2_32 : FG RX2 32 2 7 0 := ⟨⟨_, rfl, by decide, (tb_2 (List.mem_of_getElem? (i := 115) (by decide +kernel)))⟩, by decide, rfl⟩
theorem fg_RX2_35 : FG RX2 35 2 8 0 := ⟨⟨_, rfl, by decide, (tb_2 (List.mem_of_getElem? (i := 116) (by decide +kernel)))⟩, by decide, rfl⟩
theorem fg_RX2_38 : FG RX2 38 2 9 0 := ⟨⟨_, rfl, by decide, (tb_2 (List.mem_of_getElem? (i := 117) (by decide +kernel)))⟩, by decide, rfl⟩
theorem fg_RX2_41 : FG RX2 41 2 10 0 := ⟨⟨_, rfl, by decide, (tb_2 (List.mem_of_getElem? (i := 118) (by decide +kernel)))⟩, by decide, rfl⟩
theorem fg_RX2_44 : FG RX2 44 2 11 0 := ⟨⟨_, rfl, by decide, (tb_2 (List.mem_of_getElem? (i := 119) (by decide +kernel)))⟩, by decide, rfl⟩
theorem fg_RX2_47 : FG RX2 47 2 12 0 := ⟨⟨_, rfl, by decide, (tb_2 (List.mem_of_getElem? (i := 120) (by decide +kernel)))⟩, by decide, rfl⟩
theorem fg_RX2_50 : FG RX2 50 2 1 2 := ⟨⟨_, rfl, by decide, (tb_2 (List.mem_of_getElem? (i := 109) (by decide +kernel)))⟩, by decide, rfl⟩
theorem fg_RX2_60 : FG RX2 60 1 5 2 := ⟨⟨_, rfl, by decide, (tb_1 (List.mem_of_getElem? (i := 169) (by decide +kernel)))⟩, by decide, rfl⟩
theorem fg_RX2_64 : FG RX2 64 7 0 2 := ⟨⟨_, rfl, by decide, (tb_1 (List.mem_of_getElem? (i := 108) (by decide +kernel)))⟩, by decide, rfl⟩
theorem fg_RX2_70 : FG RX2 70 10 0 2 := ⟨⟨_, rfl, by decide, (tb_1 (List.mem_of_getElem? (i := 86) (by decide +kernel)))⟩, by decide, rfl⟩
theorem fg_RX2_86 : FG RX2 86 1 0 0 := ⟨⟨_, rfl, by decide, (tb_1 (List.mem_of_getElem? (i := 145) (by decide +kernel)))⟩, by decide, rfl⟩
theorem fg_RX2_106 : FG RX2 106 1 3 2 := ⟨⟨_, rfl, by decide, (tb_1 (List.mem_of_getElem? (i := 161) (by decide +kernel)))⟩, by decide, rfl⟩
theorem fg_RX3_9 : FG RX3 9 3 0 0 := ⟨⟨_, rfl, by decide, (tb_2 (List.mem_of_getElem? (i := 47) (by decide +kernel)))⟩, by decide, rfl⟩
theorem fg_RX3_15 : FG RX3 15 3 1 0 := ⟨⟨_, rfl, by decide, (tb_2 (List.mem_of_getElem? (i := 49) (by decide +kernel)))⟩, by decide, rfl⟩
theorem fg_RX3_20 : FG RX3 20 3 2 2 := ⟨⟨_, rfl, by decide, (tb_2 (List.mem_of_getElem? (i := 50) (by decide +kernel)))⟩, by decide, rfl⟩
theorem fg_RX4_11 : FG RX4 11 4 1 2 := ⟨⟨_, rfl, by decide, (tb_1 (List.mem_of_getElem? (i := 212) (by decide +kernel)))⟩, by decide, rfl⟩
theorem fg_RX4_17 : FG RX4 17 4 2 0 := ⟨⟨_, rfl, by decide, (tb_1 (List.mem_of_getElem? (i := 214) (by decide +kernel)))⟩, by decide, rfl⟩
theorem fg_RX4_21 : FG RX4 21 4 0 2 := ⟨⟨_, rfl, by decide, (tb_1 (List.mem_of_getElem? (i := 211) (by decide +kernel)))⟩, by decide, rfl⟩
theorem fg_RX5_9 : FG RX5 9 5 0 0 := ⟨⟨_, rfl, by decide, (tb_1 (List.mem_of_getElem? (i := 233) (by decide +kernel)))⟩, by decide, rfl⟩
theorem fg_RX5_15 : FG RX5 15 5 1 0 := ⟨⟨_, rfl, by decide, (tb_1 (List.mem_of_getElem? (i := 235) (by decide +kernel)))⟩, by decide, rfl⟩
theorem fg_RX5_18 : FG RX5 18 5 2 2 := ⟨⟨_, rfl, by decide, (tb_1 (List.mem_of_getElem? (i := 238) (by decide +kernel)))⟩, by decide, rfl⟩
theorem fg_RX5_26 : FG RX5 26 5 3 2 := ⟨⟨_, rfl, by decide, (tb_2 (List.mem_of_getElem? (i := 0) (by decide +kernel)))⟩, by decide, rfl⟩
theorem fg_RX5_29 : FG RX5 29 5 4 2 := ⟨⟨_, rfl, by decide, (tb_2 (List.mem_of_getElem? (i := 1) (by decide +kernel)))⟩, by decide, rfl⟩
theorem fg_RX5_32 : FG RX5 32 5 5 2 := ⟨⟨_, rfl, by decide, (tb_2 (List.mem_of_getElem? (i := 2) (by decide +kernel)))⟩, by decide, rfl⟩
theorem fg_RX6_9 : FG RX6 9 6 0 0 := ⟨⟨_, rfl, by decide, (tb_2 (List.mem_of_getElem? (i := 64) (by decide +kernel)))⟩, by decide, rfl⟩
theorem fg_RX6_15 : FG RX6 15 6 1 0 := ⟨⟨_, rfl, by decide, (tb_2 (List.mem_of_getElem? (i := 66) (by decide +kernel)))⟩, by decide, rfl⟩
theorem fg_RX6_21 : FG RX6 21 6 4 2 := ⟨⟨_, rfl, by decide, (tb_2 (List.mem_of_getElem? (i := 71) (by decide +kernel)))⟩, by decide, rfl⟩
theorem fg_RX6_25 : FG RX6 25 6 5 2 := ⟨⟨_, rfl, by decide, (tb_2 (List.mem_of_getElem? (i := 72) (by decide +kernel)))⟩, by decide, rfl⟩
theorem fg_RX6_28 : FG RX6 28 6 6 2 := ⟨⟨_, rfl, by decide, (tb_2 (List.mem_of_getElem? (i := 73) (by decide +kernel)))⟩, by decide, rfl⟩
theorem fg_RX6_31 : FG RX6 31 6 7 2 := ⟨⟨_, rfl, by decide, (tb_2 (List.mem_of_getElem? (i := 74) (by decide +kernel)))⟩, by decide, rfl⟩
theorem fg_RX6_34 : FG RX6 34 6 8 2 := ⟨⟨_, rfl, by decide, (tb_2 (List.mem_of_getElem? (i := 75) (by decide +kernel)))⟩, by decide, rfl⟩
theorem fg_RX6_37 : FG RX6 37 6 9 2 := ⟨⟨_, rfl, by decide, (tb_2 (List.mem_of_getElem? (i := 76) (by decide +kernel)))⟩, by decide, rfl⟩
theorem fg_RX6_40 : FG RX6 40 6 10 2 := ⟨⟨_, rfl, by decide, (tb_2 (List.mem_of_getElem? (i := 77) (by decide +kernel)))⟩, by decide, rfl⟩
theorem fg_RX6_43 : FG RX6 43 6 3 2 := ⟨⟨_, rfl, by decide, (tb_2 (List.mem_of_getElem? (i := 70) (by decide +kernel)))⟩, by decide, rfl⟩
theorem fg_RX6_54 : FG RX6 54 1 1 0 := ⟨⟨_, rfl, by decide, (tb_1 (List.mem_of_getElem? (i := 149) (by decide +kernel)))⟩, by decide, rfl⟩
theorem fg_RX6_69 : FG RX6 69 1 0 0 := ⟨⟨_, rfl, by decide, (tb_1 (List.mem_of_getElem? (i := 144) (by decide +kernel)))⟩, by decide, rfl⟩
theorem fg_RX6_78 : FG RX6 78 1 5 2 := ⟨⟨_, rfl, by decide, (tb_1 (List.mem_of_getElem? (i := 170) (by decide +kernel)))⟩, by decide, rfl⟩
theorem fg_RX6_82 : FG RX6 82 7 0 2 := ⟨⟨_, rfl, by decide, (tb_1 (List.mem_of_getElem? (i := 109) (by decide +kernel)))⟩, by decide, rfl⟩
theorem fg_RX6_105 : FG RX6 105 1 3 2 := ⟨⟨_, rfl, by decide, (tb_1 (List.mem_of_getElem? (i := 158) (by decide +kernel)))⟩, by decide, rfl⟩
theorem fg_RX6_108 : FG RX6 108 1 2 2 := ⟨⟨_, rfl, by decide, (tb_1 (List.mem_of_getElem? (i := 154) (by decide +kernel)))⟩, by decide, rfl⟩
theorem fg_RX7_14 : FG RX7 14 7 0 2 := ⟨⟨_, rfl, by decide, (tb_1 (List.mem_of_getElem? (i := 106) (by decide +kernel)))⟩, by decide, rfl⟩
theorem fg_RX7_20 : FG RX7 20 7 1 2 := ⟨⟨_, rfl, by decide, (tb_1 (List.mem_of_getElem? (i := 113) (by decide +kernel)))⟩, by decide, rfl⟩
theorem fg_RX7_24 : FG RX7 24 7 2 0 := ⟨⟨_, rfl, by decide, (tb_1 (List.mem_of_getElem? (i := 118) (by decide +kernel)))⟩, by decide, rfl⟩
theorem fg_RX7_28 : FG RX7 28 7 3 0 := ⟨⟨_, rfl, by decide, (tb_1 (List.mem_of_getElem? (i := 122) (by decide +kernel)))⟩, by decide, rfl⟩
theorem fg_RX7_31 : FG RX7 31 7 4 0 := ⟨⟨_, rfl, by decide, (tb_1 (List.mem_of_getElem? (i := 127) (by decide +kernel)))⟩, by decide, rfl⟩
theorem fg_RX8_11 : FG RX8 11 8 0 2 := ⟨⟨_, rfl, by decide, (tb_1 (List.mem_of_getElem? (i := 40) (by decide +kernel)))⟩, by decide, rfl⟩
theorem fg_RX8_15 : FG RX8 15 8 1 0 := ⟨⟨_, rfl, by decide, (tb_1 (List.mem_of_getElem? (i := 41) (by decide +kernel)))⟩, by decide, rfl⟩
theorem fg_RX8_19 : FG RX8 19 8 2 0 := ⟨⟨_, rfl, by decide, (tb_1 (List.mem_of_getElem? (i := 43) (by decide +kernel)))⟩, by decide, rfl⟩
theorem fg_RX9_12 : FG RX9 12 9 1 2 := ⟨⟨_, rfl, by decide, (tb_1 (List.mem_of_getElem? (i := 188) (by decide +kernel)))⟩, by decide, rfl⟩
theorem fg_RX9_23 : FG RX9 23 9 2 2 := ⟨⟨_, rfl, by decide, (tb_1 (List.mem_of_getElem? (i := 190) (by decide +kernel)))⟩, by decide, rfl⟩
theorem fg_RX9_27 : FG RX9 27 9 3 2 := ⟨⟨_, rfl, by decide, (tb_1 (List.mem_of_getElem? (i := 192) (by decide +kernel)))⟩, by decide, rfl⟩
theorem fg_RX9_31 : FG RX9 31 9 4 0 := ⟨⟨_, rfl, by decide, (tb_1 (List.mem_of_getElem? (i := 193) (by decide +kernel)))⟩, by decide, rfl⟩
theorem fg_RX9_35 : FG RX9 35 9 0 2 := ⟨⟨_, rfl, by decide, (tb_1 (List.mem_of_getElem? (i := 187) (by decide +kernel)))⟩, by decide, rfl⟩
theorem fg_RX9_44 : FG RX9 44 10 0 2 := ⟨⟨_, rfl, by decide, (tb_1 (List.mem_of_getElem? (i := 84) (by decide +kernel)))⟩, by decide, rfl⟩
theorem fg_RX9_55 : FG RX9 55 1 0 0 := ⟨⟨_, rfl, by decide, (tb_1 (List.mem_of_getElem? (i := 143) (by decide +kernel)))⟩, by decide, rfl⟩
theorem fg_RX9_59 : FG RX9 59 1 1 0 := ⟨⟨_, rfl, by decide, (tb_1 (List.mem_of_getElem? (i := 150) (by decide +kernel)))⟩, by decide, rfl⟩
theorem fg_RX9_62 : FG RX9 62 1 5 2 := ⟨⟨_, rfl, by decide, (tb_1 (List.mem_of_getElem? (i := 168) (by decide +kernel)))⟩, by decide, rfl⟩
theorem fg_RX9_91 : FG RX9 91 7 1 2 := ⟨⟨_, rfl, by decide, (tb_1 (List.mem_of_getElem? (i := 114) (by decide +kernel)))⟩, by decide, rfl⟩
theorem fg_RX9_135 : FG RX9 135 1 2 2 := ⟨⟨_, rfl, by decide, (tb_1 (List.mem_of_getElem? (i := 156) (by decide +kernel)))⟩, by decide, rfl⟩
theorem fg_RX9_138 : FG RX9 138 1 3 2 := ⟨⟨_, rfl, by decide, (tb_1 (List.mem_of_getElem? (i := 160) (by decide +kernel)))⟩, by decide, rfl⟩
theorem fg_RX9_152 : FG RX9 152 1 4 2 := ⟨⟨_, rfl, by decide, (tb_1 (List.mem_of_getElem? (i := 165) (by decide +kernel)))⟩, by decide, rfl⟩
theorem fg_RX9_155 : FG RX9 155 7 0 2 := ⟨⟨_, rfl, by decide, (tb_1 (List.mem_of_getElem? (i := 112) (by decide +kernel)))⟩, by decide, rfl⟩
theorem fp_RX0_44 : FP RX0 44 7 4 .int := ⟨⟨_, rfl, by decide, (tb_1 (List.mem_of_getElem? (i := 128) (by decide +kernel)))⟩, by decide, rfl, fun q hq => by cases hq; rfl⟩
theorem fp_RX0_111 : FP RX0 111 7 3 .int := ⟨⟨_, rfl, by decide, (tb_1 (List.mem_of_getElem? (i := 124) (by decide +kernel)))⟩, by decide, rfl, fun q hq => by cases hq; rfl⟩
theorem fp_RX1_9 : FP RX1 9 1 0 .int := ⟨⟨_, rfl, by decide, (tb_1 (List.mem_of_getElem? (i := 142) (by decide +kernel)))⟩, by decide, rfl, fun q hq => by cases hq; rfl⟩
theorem fp_RX1_15 : FP RX1 15 1 1 .int := ⟨⟨_, rfl, by decide, (tb_1 (List.mem_of_getElem? (i := 147) (by decide +kernel)))⟩, by decide, rfl, fun q hq => by cases hq; rfl⟩
theorem fp_RX11_55 : FP RX11 55 11 6 .int := ⟨⟨_, rfl, by decide, (tb_2 (List.mem_of_getElem? (i := 157) (by decide +kernel)))⟩, by decide, rfl, fun q hq => by cases hq; rfl⟩
theorem fp_RX11_106 : FP RX11 106 11 14 .boolean := ⟨⟨_, rfl, by decide, (tb_2 (List.mem_of_getElem? (i := 165) (by decide +kernel)))⟩, by decide, rfl, fun q hq => by cases hq; rfl⟩
theorem fp_RX11_110 : FP RX11 110 11 15 .int := ⟨⟨_, rfl, by decide, (tb_2 (List.mem_of_getElem? (i := 166) (by decide +kernel)))⟩, by decide, rfl, fun q hq => by cases hq; rfl⟩
theorem fp_RX11_113 : FP RX11 113 11 16 .long := ⟨⟨_, rfl, by decide, (tb_2 (List.mem_of_getElem? (i := 167) (by decide +kernel)))⟩, by decide, rfl, fun q hq => by cases hq; rfl⟩
theorem fp_RX11_121 : FP RX11 121 8 1 .int := ⟨⟨_, rfl, by decide, (tb_1 (List.mem_of_getElem? (i := 42) (by decide +kernel)))⟩, by decide, rfl, fun q hq => by cases hq; rfl⟩
theorem fp_RX11_223 : FP RX11 223 5 1 .int := ⟨⟨_, rfl, by decide, (tb_1 (List.mem_of_getElem? (i := 237) (by decide +kernel)))⟩, by decide, rfl, fun q hq => by cases hq; rfl⟩
theorem fp_RX11_236 : FP RX11 236 7 2 .int := ⟨⟨_, rfl, by decide, (tb_1 (List.mem_of_getElem? (i := 121) (by decide +kernel)))⟩, by decide, rfl, fun q hq => by cases hq; rfl⟩
theorem fp_RX11_239 : FP RX11 239 7 3 .int := ⟨⟨_, rfl, by decide, (tb_1 (List.mem_of_getElem? (i := 126) (by decide +kernel)))⟩, by decide, rfl, fun q hq => by cases hq; rfl⟩
theorem fp_RX12_67 : FP RX12 67 12 34 .int := ⟨⟨_, rfl, by decide, (tb_6 (List.mem_of_getElem? (i := 84) (by decide +kernel)))⟩, by decide, rfl, fun q hq => by cases hq; rfl⟩
theorem fp_RX12_91 : FP RX12 91 12 0 .int := ⟨⟨_, rfl, by decide, (tb_6 (List.mem_of_getElem? (i := 50) (by decide +kernel)))⟩, by decide, rfl, fun q hq => by cases hq; rfl⟩
theorem fp_RX12_104 : FP RX12 104 12 6 .int := ⟨⟨_, rfl, by decide, (tb_6 (List.mem_of_getElem? (i := 56) (by decide +kernel)))⟩, by decide, rfl, fun q hq => by cases hq; rfl⟩
theorem fp_RX12_114 : FP RX12 114 12 10 .int := ⟨⟨_, rfl, by decide, (tb_6 (List.mem_of_getElem? (i := 60) (by decide +kernel)))⟩, by decide, rfl, fun q hq => by cases hq; rfl⟩
theorem fp_RX12_117 : FP RX12 117 12 9 .int := ⟨⟨_, rfl, by decide, (tb_6 (List.mem_of_getElem? (i := 59) (by decide +kernel)))⟩, by decide, rfl, fun q hq => by cases hq; rfl⟩
theorem fp_RX12_120 : FP RX12 120 12 8 .int := ⟨⟨_, rfl, by decide, (tb_6 (List.mem_of_getElem? (i := 58) (by decide +kernel)))⟩, by decide, rfl, fun q hq => by cases hq; rfl⟩
theorem fp_RX12_123 : FP RX12 123 12 11 .int := ⟨⟨_, rfl, by decide, (tb_6 (List.mem_of_getElem? (i := 61) (by decide +kernel)))⟩, by decide, rfl, fun q hq => by cases hq; rfl⟩
theorem fp_RX12_126 : FP RX12 126 12 12 .int := ⟨⟨_, rfl, by decide, (tb_6 (List.mem_of_getElem? (i := 62) (by decide +kernel)))⟩, by decide, rfl, fun q hq => by cases hq; rfl⟩
theorem fp_RX12_192 : FP RX12 192 12 17 .boolean := ⟨⟨_, rfl, by decide, (tb_6 (List.mem_of_getElem? (i := 67) (by decide +kernel)))⟩, by decide, rfl, fun q hq => by cases hq; rfl⟩
theorem fp_RX12_196 : FP RX12 196 12 13 .int := ⟨⟨_, rfl, by decide, (tb_6 (List.mem_of_getElem? (i := 63) (by decide +kernel)))⟩, by decide, rfl, fun q hq => by cases hq; rfl⟩
theorem fp_RX12_199 : FP RX12 199 12 14 .int := ⟨⟨_, rfl, by decide, (tb_6 (List.mem_of_getElem? (i := 64) (by decide +kernel)))⟩, by decide, rfl, fun q hq => by cases hq; rfl⟩
theorem fp_RX12_244 : FP RX12 244 12 31 .boolean := ⟨⟨_, rfl, by decide, (tb_6 (List.mem_of_getElem? (i := 81) (by decide +kernel)))⟩, by decide, rfl, fun q hq => by cases hq; rfl⟩
theorem fp_RX12_247 : FP RX12 247 12 28 .int := ⟨⟨_, rfl, by decide, (tb_6 (List.mem_of_getElem? (i := 78) (by decide +kernel)))⟩, by decide, rfl, fun q hq => by cases hq; rfl⟩
theorem fp_RX12_250 : FP RX12 250 12 29 .int := ⟨⟨_, rfl, by decide, (tb_6 (List.mem_of_getElem? (i := 79) (by decide +kernel)))⟩, by decide, rfl, fun q hq => by cases hq; rfl⟩
theorem fp_RX12_286 : FP RX12 286 12 7 .int := ⟨⟨_, rfl, by decide, (tb_6 (List.mem_of_getElem? (i := 57) (by decide +kernel)))⟩, by decide, rfl, fun q hq => by cases hq; rfl⟩
theorem fp_RX12_289 : FP RX12 289 12 30 .int := ⟨⟨_, rfl, by decide, (tb_6 (List.mem_of_getElem? (i := 80) (by decide +kernel)))⟩, by decide, rfl, fun q hq => by cases hq; rfl⟩
theorem fp_RX12_294 : FP RX12 294 12 26 .int := ⟨⟨_, rfl, by decide, (tb_6 (List.mem_of_getElem? (i := 76) (by decide +kernel)))⟩, by decide, rfl, fun q hq => by cases hq; rfl⟩
theorem fp_RX12_297 : FP RX12 297 12 27 .int := ⟨⟨_, rfl, by decide, (tb_6 (List.mem_of_getElem? (i := 77) (by decide +kernel)))⟩, by decide, rfl, fun q hq => by cases hq; rfl⟩
theorem fp_RX12_304 : FP RX12 304 12 45 .int := ⟨⟨_, rfl, by decide, (tb_6 (List.mem_of_getElem? (i := 95) (by decide +kernel)))⟩, by decide, rfl, fun q hq => by cases hq; rfl⟩
theorem fp_RX12_307 : FP RX12 307 12 37 .int := ⟨⟨_, rfl, by decide, (tb_6 (List.mem_of_getElem? (i := 87) (by decide +kernel)))⟩, by decide, rfl, fun q hq => by cases hq; rfl⟩
theorem fp_RX12_310 : FP RX12 310 12 48 .boolean := ⟨⟨_, rfl, by decide, (tb_6 (List.mem_of_getElem? (i := 98) (by decide +kernel)))⟩, by decide, rfl, fun q hq => by cases hq; rfl⟩
theorem fp_RX12_369 : FP RX12 369 12 35 .int := ⟨⟨_, rfl, by decide, (tb_6 (List.mem_of_getElem? (i := 85) (by decide +kernel)))⟩, by decide, rfl, fun q hq => by cases hq; rfl⟩
theorem fp_RX12_389 : FP RX12 389 12 38 .long := ⟨⟨_, rfl, by decide, (tb_6 (List.mem_of_getElem? (i := 88) (by decide +kernel)))⟩, by decide, rfl, fun q hq => by cases hq; rfl⟩
theorem fp_RX12_400 : FP RX12 400 12 40 .int := ⟨⟨_, rfl, by decide, (tb_6 (List.mem_of_getElem? (i := 90) (by decide +kernel)))⟩, by decide, rfl, fun q hq => by cases hq; rfl⟩
theorem fp_RX12_403 : FP RX12 403 12 41 .int := ⟨⟨_, rfl, by decide, (tb_6 (List.mem_of_getElem? (i := 91) (by decide +kernel)))⟩, by decide, rfl, fun q hq => by cases hq; rfl⟩
theorem fp_RX12_406 : FP RX12 406 12 39 .int := ⟨⟨_, rfl, by decide, (tb_6 (List.mem_of_getElem? (i := 89) (by decide +kernel)))⟩, by decide, rfl, fun q hq => by cases hq; rfl⟩
theorem fp_RX2_9 : FP RX2 9 2 0 .int := ⟨⟨_, rfl, by decide, (tb_2 (List.mem_of_getElem? (i := 107) (by decide +kernel)))⟩, by decide, rfl, fun q hq => by cases hq; rfl⟩
theorem fp_RX2_29 : FP RX2 29 2 6 .int := ⟨⟨_, rfl, by decide, (tb_2 (List.mem_of_getElem? (i := 114) (by decide +kernel)))⟩, by decide, rfl, fun q hq => by cases hq; rfl⟩
theorem fp_RX2_32 : FP RX2 32 2 7 .int := ⟨⟨_, rfl, by decide, (tb_2 (List.mem_of_getElem? (i := 115) (by decide +kernel)))⟩, by decide, rfl, fun q hq => by cases hq; rfl⟩
theorem fp_RX2_35 : FP RX2 35 2 8 .int := ⟨⟨_, rfl, by decide, (tb_2 (List.mem_of_getElem? (i := 116) (by decide +kernel)))⟩, by decide, rfl, fun q hq => by cases hq; rfl⟩
theorem fp_RX2_38 : FP RX2 38 2 9 .int := ⟨⟨_, rfl, by decide, (tb_2 (List.mem_of_getElem? (i := 117) (by decide +kernel)))⟩, by decide, rfl, fun q hq => by cases hq; rfl⟩
theorem fp_RX2_41 : FP RX2 41 2 10 .int := ⟨⟨_, rfl, by decide, (tb_2 (List.mem_of_getElem? (i := 118) (by decide +kernel)))⟩, by decide, rfl, fun q hq => by cases hq; rfl⟩
theorem fp_RX2_44 : FP RX2 44 2 11 .int := ⟨⟨_, rfl, by decide, (tb_2 (List.mem_of_getElem? (i := 119) (by decide +kernel)))⟩, by decide, rfl, fun q hq => by cases hq; rfl⟩
theorem fp_RX2_47 : FP RX2 47 2 12 .int := ⟨⟨_, rfl, by decide, (tb_2 (List.mem_of_getElem? (i := 120) (by decide +kernel)))⟩, by decide, rfl, fun q hq => by cases hq; rfl⟩
theorem fp_RX3_9 : FP RX3 9 3 0 .int := ⟨⟨_, rfl, by decide, (tb_2 (List.mem_of_getElem? (i := 47) (by decide +kernel)))⟩, by decide, rfl, fun q hq => by cases hq; rfl⟩
theorem fp_RX3_15 : FP RX3 15 3 1 .int := ⟨⟨_, rfl, by decide, (tb_2 (List.mem_of_getElem? (i := 49) (by decide +kernel)))⟩, by decide, rfl, fun q hq => by cases hq; rfl⟩
theorem fp_RX4_17 : FP RX4 17 4 2 .int := ⟨⟨_, rfl, by decide, (tb_1 (List.mem_of_getElem? (i := 214) (by decide +kernel)))⟩, by decide, rfl, fun q hq => by cases hq; rfl⟩
theorem fp_RX5_9 : FP RX5 9 5 0 .int := ⟨⟨_, rfl, by decide, (tb_1 (List.mem_of_getElem? (i := 233) (by decide +kernel)))⟩, by decide, rfl, fun q hq => by cases hq; rfl⟩
theorem fp_RX6_9 : FP RX6 9 6 0 .int := ⟨⟨_, rfl, by decide, (tb_2 (List.mem_of_getElem? (i := 64) (by decide +kernel)))⟩, by decide, rfl, fun q hq => by cases hq; rfl⟩
theorem fp_RX6_15 : FP RX6 15 6 1 .int := ⟨⟨_, rfl, by decide, (tb_2 (List.mem_of_getElem? (i := 66) (by decide +kernel)))⟩, by decide, rfl, fun q hq => by cases hq; rfl⟩
theorem fp_RX6_18 : FP RX6 18 6 2 .int := ⟨⟨_, rfl, by decide, (tb_2 (List.mem_of_getElem? (i := 68) (by decide +kernel)))⟩, by decide, rfl, fun q hq => by cases hq; rfl⟩
theorem fp_RX7_24 : FP RX7 24 7 2 .int := ⟨⟨_, rfl, by decide, (tb_1 (List.mem_of_getElem? (i := 118) (by decide +kernel)))⟩, by decide, rfl, fun q hq => by cases hq; rfl⟩
theorem fp_RX7_28 : FP RX7 28 7 3 .int := ⟨⟨_, rfl, by decide, (tb_1 (List.mem_of_getElem? (i := 122) (by decide +kernel)))⟩, by decide, rfl, fun q hq => by cases hq; rfl⟩
theorem fp_RX7_31 : FP RX7 31 7 4 .int := ⟨⟨_, rfl, by decide, (tb_1 (List.mem_of_getElem? (i := 127) (by decide +kernel)))⟩, by decide, rfl, fun q hq => by cases hq; rfl⟩
theorem fp_RX8_15 : FP RX8 15 8 1 .int := ⟨⟨_, rfl, by decide, (tb_1 (List.mem_of_getElem? (i := 41) (by decide +kernel)))⟩, by decide, rfl, fun q hq => by cases hq; rfl⟩
theorem fp_RX8_19 : FP RX8 19 8 2 .int := ⟨⟨_, rfl, by decide, (tb_1 (List.mem_of_getElem? (i := 43) (by decide +kernel)))⟩, by decide, rfl, fun q hq => by cases hq; rfl⟩
theorem fp_RX9_31 : FP RX9 31 9 4 .boolean := ⟨⟨_, rfl, by decide, (tb_1 (List.mem_of_getElem? (i := 193) (by decide +kernel)))⟩, by decide, rfl, fun q hq => by cases hq; rfl⟩
theorem fp_RX9_55 : FP RX9 55 1 0 .int := ⟨⟨_, rfl, by decide, (tb_1 (List.mem_of_getElem? (i := 143) (by decide +kernel)))⟩, by decide, rfl, fun q hq => by cases hq; rfl⟩
theorem fp_RX9_59 : FP RX9 59 1 1 .int := ⟨⟨_, rfl, by decide, (tb_1 (List.mem_of_getElem? (i := 150) (by decide +kernel)))⟩, by decide, rfl, fun q hq => by cases hq; rfl⟩
theorem fp_RX9_69 : FP RX9 69 7 2 .int := ⟨⟨_, rfl, by decide, (tb_1 (List.mem_of_getElem? (i := 119) (by decide +kernel)))⟩, by decide, rfl, fun q hq => by cases hq; rfl⟩
theorem fp_RX9_74 : FP RX9 74 7 3 .int := ⟨⟨_, rfl, by decide, (tb_1 (List.mem_of_getElem? (i := 123) (by decide +kernel)))⟩, by decide, rfl, fun q hq => by cases hq; rfl⟩
theorem fp_RX9_77 : FP RX9 77 7 4 .int := ⟨⟨_, rfl, by decide, (tb_1 (List.mem_of_getElem? (i := 129) (by decide +kernel)))⟩, by decide, rfl, fun q hq => by cases hq; rfl⟩
theorem ml_RJ0_335 : Cond.methodLink RJ0 335 yJ0_coder_7d493 ∈ lw_tbl := (tb_3 (List.mem_of_getElem? (i := 37) (by decide +kernel)))
theorem ml_RJ0_492 : Cond.methodLink RJ0 492 yJ0_isLatin1_aae02 ∈ lw_tbl := (tb_3 (List.mem_of_getElem? (i := 27) (by decide +kernel)))
theorem ml_RJ0_495 : Cond.methodLink RJ0 495 yJ1_charAt_3b067 ∈ lw_tbl := (tb_7 (List.mem_of_getElem? (i := 21) (by decide +kernel)))
theorem ml_RJ0_505 : Cond.methodLink RJ0 505 yJ0_length_8abf5 ∈ lw_tbl := (tb_3 (List.mem_of_getElem? (i := 33) (by decide +kernel)))
theorem ml_RJ0_633 : Cond.methodLink RJ0 633 yJ0_indexOf_7cf53 ∈ lw_tbl := (tb_3 (List.mem_of_getElem? (i := 23) (by decide +kernel)))
theorem ml_RJ0_637 : Cond.methodLink RJ0 637 yJ1_indexOf_4cfef ∈ lw_tbl := (tb_3 (List.mem_of_getElem? (i := 41) (by decide +kernel)))
theorem ml_RJ0_1059 : Cond.methodLink RJ0 1059 yJ3_checkIndex_8e157 ∈ lw_tbl := (tb_7 (List.mem_of_getElem? (i := 27) (by decide +kernel)))
theorem ml_RJ1_9 : Cond.methodLink RJ1 9 yJ0_checkIndex_df160 ∈ lw_tbl := (tb_7 (List.mem_of_getElem? (i := 24) (by decide +kernel)))
theorem ml_RJ1_38 : Cond.methodLink RJ1 38 Lib.Math.min.name ∈ lw_tbl := (tb_3 (List.mem_of_getElem? (i := 48) (by decide +kernel)))
theorem ml_RJ1_88 : Cond.methodLink RJ1 88 yJ1_canEncode_9a6ad ∈ lw_tbl := (tb_3 (List.mem_of_getElem? (i := 44) (by decide +kernel)))
theorem ml_RJ1_92 : Cond.methodLink RJ1 92 Lib.Math.max.name ∈ lw_tbl := (tb_3 (List.mem_of_getElem? (i := 47) (by decide +kernel)))
theorem ml_RJ1_95 : Cond.methodLink RJ1 95 yJ1_indexOfChar_4cfef ∈ lw_tbl := (tb_3 (List.mem_of_getElem? (i := 49) (by decide +kernel)))
theorem ml_RX0_32 : Cond.methodLink RX0 32 yX1_goneWords ∈ lw_tbl := (tb_4 (List.mem_of_getElem? (i := 144) (by decide +kernel)))
theorem ml_RX0_40 : Cond.methodLink RX0 40 yX0_fadeCard ∈ lw_tbl := (tb_4 (List.mem_of_getElem? (i := 145) (by decide +kernel)))
theorem ml_RX0_49 : Cond.methodLink RX0 49 yX0_changeThings ∈ lw_tbl := (tb_4 (List.mem_of_getElem? (i := 178) (by decide +kernel)))
theorem ml_RX0_52 : Cond.methodLink RX0 52 yX1_wrongCards ∈ lw_tbl := (tb_4 (List.mem_of_getElem? (i := 188) (by decide +kernel)))
theorem ml_RX0_67 : Cond.methodLink RX0 67 yX0_inkAfter ∈ lw_tbl := (tb_4 (List.mem_of_getElem? (i := 149) (by decide +kernel)))
theorem ml_RX0_88 : Cond.methodLink RX0 88 yX5_worth ∈ lw_tbl := (tb_4 (List.mem_of_getElem? (i := 153) (by decide +kernel)))
theorem ml_RX0_91 : Cond.methodLink RX0 91 Lib.Math.min.name ∈ lw_tbl := (tb_4 (List.mem_of_getElem? (i := 83) (by decide +kernel)))
theorem ml_RX0_97 : Cond.methodLink RX0 97 Lib.Math.max.name ∈ lw_tbl := (tb_4 (List.mem_of_getElem? (i := 177) (by decide +kernel)))
theorem ml_RX0_100 : Cond.methodLink RX0 100 yX1_isRight ∈ lw_tbl := (tb_4 (List.mem_of_getElem? (i := 182) (by decide +kernel)))
theorem ml_RX0_104 : Cond.methodLink RX0 104 yX1_cheapestFor ∈ lw_tbl := (tb_4 (List.mem_of_getElem? (i := 183) (by decide +kernel)))
theorem ml_RX0_117 : Cond.methodLink RX0 117 yX0_logLength ∈ lw_tbl := (tb_4 (List.mem_of_getElem? (i := 223) (by decide +kernel)))
theorem ml_RX1_35 : Cond.methodLink RX1 35 arraycopyName ∈ lw_tbl := (tb_3 (List.mem_of_getElem? (i := 236) (by decide +kernel)))
theorem ml_RX1_41 : Cond.methodLink RX1 41 yX7_takeAll ∈ lw_tbl := (tb_3 (List.mem_of_getElem? (i := 237) (by decide +kernel)))
theorem ml_RX1_48 : Cond.methodLink RX1 48 yX1_isCard ∈ lw_tbl := (tb_4 (List.mem_of_getElem? (i := 27) (by decide +kernel)))
theorem ml_RX1_52 : Cond.methodLink RX1 52 yX1_isThing ∈ lw_tbl := (tb_4 (List.mem_of_getElem? (i := 32) (by decide +kernel)))
theorem ml_RX1_67 : Cond.methodLink RX1 67 yX1_isTrue ∈ lw_tbl := (tb_4 (List.mem_of_getElem? (i := 33) (by decide +kernel)))
theorem ml_RX1_77 : Cond.methodLink RX1 77 yX1_marksUnder ∈ lw_tbl := (tb_4 (List.mem_of_getElem? (i := 37) (by decide +kernel)))
theorem ml_RX1_81 : Cond.methodLink RX1 81 yX1_isFit ∈ lw_tbl := (tb_4 (List.mem_of_getElem? (i := 28) (by decide +kernel)))
theorem ml_RX1_88 : Cond.methodLink RX1 88 yX1_cardOver ∈ lw_tbl := (tb_4 (List.mem_of_getElem? (i := 187) (by decide +kernel)))
theorem ml_RX1_91 : Cond.methodLink RX1 91 yX10_leftIn ∈ lw_tbl := (tb_4 (List.mem_of_getElem? (i := 75) (by decide +kernel)))
theorem ml_RX1_94 : Cond.methodLink RX1 94 yX1_isRight ∈ lw_tbl := (tb_4 (List.mem_of_getElem? (i := 192) (by decide +kernel)))
theorem ml_RX1_97 : Cond.methodLink RX1 97 yX10_named ∈ lw_tbl := (tb_5 (List.mem_of_getElem? (i := 144) (by decide +kernel)))
theorem ml_RX10_9 : Cond.methodLink RX10 9 Lib.Math.min.name ∈ lw_tbl := (tb_1 (List.mem_of_getElem? (i := 77) (by decide +kernel)))
theorem ml_RX10_33 : Cond.methodLink RX10 33 arraycopyName ∈ lw_tbl := (tb_4 (List.mem_of_getElem? (i := 5) (by decide +kernel)))
theorem ml_RX10_39 : Cond.methodLink RX10 39 yX10_add ∈ lw_tbl := (tb_3 (List.mem_of_getElem? (i := 231) (by decide +kernel)))
theorem ml_RX11_117 : Cond.methodLink RX11 117 yX8_solidBytes ∈ lw_tbl := (tb_2 (List.mem_of_getElem? (i := 208) (by decide +kernel)))
theorem ml_RX11_124 : Cond.methodLink RX11 124 yX8_append ∈ lw_tbl := (tb_2 (List.mem_of_getElem? (i := 212) (by decide +kernel)))
theorem ml_RX11_127 : Cond.methodLink RX11 127 yX4_readLaw ∈ lw_tbl := (tb_2 (List.mem_of_getElem? (i := 224) (by decide +kernel)))
theorem ml_RX11_131 : Cond.methodLink RX11 131 yX9_readReading ∈ lw_tbl := (tb_3 (List.mem_of_getElem? (i := 129) (by decide +kernel)))
theorem ml_RX11_134 : Cond.methodLink RX11 134 yX9_readCollection ∈ lw_tbl := (tb_3 (List.mem_of_getElem? (i := 148) (by decide +kernel)))
theorem ml_RX11_140 : Cond.methodLink RX11 140 yX11_isFull ∈ lw_tbl := (tb_3 (List.mem_of_getElem? (i := 217) (by decide +kernel)))
theorem ml_RX11_144 : Cond.methodLink RX11 144 yX11_fault ∈ lw_tbl := (tb_3 (List.mem_of_getElem? (i := 221) (by decide +kernel)))
theorem ml_RX11_153 : Cond.methodLink RX11 153 yX5_keepNext ∈ lw_tbl := (tb_3 (List.mem_of_getElem? (i := 222) (by decide +kernel)))
theorem ml_RX11_160 : Cond.methodLink RX11 160 yX10_takeRow ∈ lw_tbl := (tb_3 (List.mem_of_getElem? (i := 227) (by decide +kernel)))
theorem ml_RX11_167 : Cond.methodLink RX11 167 yX1_takeAll ∈ lw_tbl := (tb_3 (List.mem_of_getElem? (i := 232) (by decide +kernel)))
theorem ml_RX11_170 : Cond.methodLink RX11 170 yX3_forget ∈ lw_tbl := (tb_4 (List.mem_of_getElem? (i := 7) (by decide +kernel)))
theorem ml_RX11_173 : Cond.methodLink RX11 173 yX2_forget ∈ lw_tbl := (tb_4 (List.mem_of_getElem? (i := 11) (by decide +kernel)))
theorem ml_RX11_180 : Cond.methodLink RX11 180 yX1_isThing ∈ lw_tbl := (tb_4 (List.mem_of_getElem? (i := 61) (by decide +kernel)))
theorem ml_RX11_196 : Cond.methodLink RX11 196 yX1_cardOver ∈ lw_tbl := (tb_4 (List.mem_of_getElem? (i := 89) (by decide +kernel)))
theorem ml_RX11_199 : Cond.methodLink RX11 199 yX1_isCard ∈ lw_tbl := (tb_4 (List.mem_of_getElem? (i := 19) (by decide +kernel)))
theorem ml_RX11_216 : Cond.methodLink RX11 216 yX1_isRight ∈ lw_tbl := (tb_4 (List.mem_of_getElem? (i := 23) (by decide +kernel)))
theorem ml_RX11_219 : Cond.methodLink RX11 219 yX10_tell ∈ lw_tbl := (tb_4 (List.mem_of_getElem? (i := 45) (by decide +kernel)))
theorem ml_RX11_226 : Cond.methodLink RX11 226 yX1_isFit ∈ lw_tbl := (tb_4 (List.mem_of_getElem? (i := 62) (by decide +kernel)))
theorem ml_RX11_243 : Cond.methodLink RX11 243 yX1_goneWords ∈ lw_tbl := (tb_4 (List.mem_of_getElem? (i := 71) (by decide +kernel)))
theorem ml_RX11_247 : Cond.methodLink RX11 247 yX0_logLength ∈ lw_tbl := (tb_4 (List.mem_of_getElem? (i := 79) (by decide +kernel)))
theorem ml_RX11_252 : Cond.methodLink RX11 252 yX3_keep ∈ lw_tbl := (tb_4 (List.mem_of_getElem? (i := 93) (by decide +kernel)))
theorem ml_RX11_256 : Cond.methodLink RX11 256 yX11_hasWordLeft ∈ lw_tbl := (tb_4 (List.mem_of_getElem? (i := 107) (by decide +kernel)))
theorem ml_RX11_259 : Cond.methodLink RX11 259 yX10_freshen ∈ lw_tbl := (tb_4 (List.mem_of_getElem? (i := 112) (by decide +kernel)))
theorem ml_RX11_262 : Cond.methodLink RX11 262 yX10_dim ∈ lw_tbl := (tb_4 (List.mem_of_getElem? (i := 120) (by decide +kernel)))
theorem ml_RX11_265 : Cond.methodLink RX11 265 yX10_leftIn ∈ lw_tbl := (tb_4 (List.mem_of_getElem? (i := 111) (by decide +kernel)))
theorem ml_RX11_268 : Cond.methodLink RX11 268 yX1_isNone ∈ lw_tbl := (tb_4 (List.mem_of_getElem? (i := 128) (by decide +kernel)))
theorem ml_RX11_271 : Cond.methodLink RX11 271 yX0_passDay ∈ lw_tbl := (tb_4 (List.mem_of_getElem? (i := 140) (by decide +kernel)))
theorem ml_RX11_274 : Cond.methodLink RX11 274 yX11_clean ∈ lw_tbl := (tb_4 (List.mem_of_getElem? (i := 197) (by decide +kernel)))
theorem ml_RX11_277 : Cond.methodLink RX11 277 yX11_draw ∈ lw_tbl := (tb_4 (List.mem_of_getElem? (i := 201) (by decide +kernel)))
theorem ml_RX11_284 : Cond.methodLink RX11 284 yX3_undoInto ∈ lw_tbl := (tb_4 (List.mem_of_getElem? (i := 211) (by decide +kernel)))
theorem ml_RX11_288 : Cond.methodLink RX11 288 yX0_logged ∈ lw_tbl := (tb_4 (List.mem_of_getElem? (i := 219) (by decide +kernel)))
theorem ml_RX11_292 : Cond.methodLink RX11 292 yX7_takeAll ∈ lw_tbl := (tb_4 (List.mem_of_getElem? (i := 228) (by decide +kernel)))
theorem ml_RX11_297 : Cond.methodLink RX11 297 arraycopyName ∈ lw_tbl := (tb_4 (List.mem_of_getElem? (i := 229) (by decide +kernel)))
theorem ml_RX11_303 : Cond.methodLink RX11 303 yX6_findBest ∈ lw_tbl := (tb_5 (List.mem_of_getElem? (i := 2) (by decide +kernel)))
theorem ml_RX11_315 : Cond.methodLink RX11 315 yX6_leastClash ∈ lw_tbl := (tb_5 (List.mem_of_getElem? (i := 50) (by decide +kernel)))
theorem ml_RX11_318 : Cond.methodLink RX11 318 yX0_daysTillBlank ∈ lw_tbl := (tb_5 (List.mem_of_getElem? (i := 68) (by decide +kernel)))
theorem ml_RX11_321 : Cond.methodLink RX11 321 yX2_note ∈ lw_tbl := (tb_5 (List.mem_of_getElem? (i := 76) (by decide +kernel)))
theorem ml_RX11_325 : Cond.methodLink RX11 325 yX2_aim ∈ lw_tbl := (tb_5 (List.mem_of_getElem? (i := 84) (by decide +kernel)))
theorem ml_RX11_328 : Cond.methodLink RX11 328 yX2_countRows ∈ lw_tbl := (tb_5 (List.mem_of_getElem? (i := 91) (by decide +kernel)))
theorem ml_RX11_331 : Cond.methodLink RX11 331 yX2_findRow ∈ lw_tbl := (tb_5 (List.mem_of_getElem? (i := 108) (by decide +kernel)))
theorem ml_RX11_334 : Cond.methodLink RX11 334 yX2_evenThing ∈ lw_tbl := (tb_5 (List.mem_of_getElem? (i := 116) (by decide +kernel)))
theorem ml_RX11_337 : Cond.methodLink RX11 337 yX2_kindestRow ∈ lw_tbl := (tb_5 (List.mem_of_getElem? (i := 127) (by decide +kernel)))
theorem ml_RX11_340 : Cond.methodLink RX11 340 yX2_thingsFitting ∈ lw_tbl := (tb_5 (List.mem_of_getElem? (i := 135) (by decide +kernel)))
theorem ml_RX11_343 : Cond.methodLink RX11 343 yX1_reachedFrom ∈ lw_tbl := (tb_5 (List.mem_of_getElem? (i := 140) (by decide +kernel)))
theorem ml_RX11_346 : Cond.methodLink RX11 346 yX10_named ∈ lw_tbl := (tb_5 (List.mem_of_getElem? (i := 149) (by decide +kernel)))
theorem ml_RX11_349 : Cond.methodLink RX11 349 yJ6_bitCount_0f7a4 ∈ lw_tbl := (tb_5 (List.mem_of_getElem? (i := 158) (by decide +kernel)))
theorem ml_RX11_354 : Cond.methodLink RX11 354 yX1_isToldAlone ∈ lw_tbl := (tb_5 (List.mem_of_getElem? (i := 159) (by decide +kernel)))
theorem ml_RX11_357 : Cond.methodLink RX11 357 yX1_suitedThings ∈ lw_tbl := (tb_5 (List.mem_of_getElem? (i := 167) (by decide +kernel)))
theorem ml_RX11_360 : Cond.methodLink RX11 360 yX11_spread ∈ lw_tbl := (tb_5 (List.mem_of_getElem? (i := 191) (by decide +kernel)))
theorem ml_RX11_363 : Cond.methodLink RX11 363 yX11_partsUnhurt ∈ lw_tbl := (tb_5 (List.mem_of_getElem? (i := 197) (by decide +kernel)))
theorem ml_RX11_371 : Cond.methodLink RX11 371 yX10_weakestInk ∈ lw_tbl := (tb_5 (List.mem_of_getElem? (i := 201) (by decide +kernel)))
theorem ml_RX12_94 : Cond.methodLink RX12 94 yJ0_length_8abf5 ∈ lw_tbl := (tb_7 (List.mem_of_getElem? (i := 13) (by decide +kernel)))
theorem ml_RX12_100 : Cond.methodLink RX12 100 yJ0_charAt_5068e ∈ lw_tbl := (tb_7 (List.mem_of_getElem? (i := 17) (by decide +kernel)))
theorem ml_RX12_106 : Cond.methodLink RX12 106 yX12_bytesIn ∈ lw_tbl := (tb_6 (List.mem_of_getElem? (i := 206) (by decide +kernel)))
theorem ml_RX12_110 : Cond.methodLink RX12 110 yX12_put ∈ lw_tbl := (tb_6 (List.mem_of_getElem? (i := 209) (by decide +kernel)))
theorem ml_RX12_129 : Cond.methodLink RX12 129 yX12_fails ∈ lw_tbl := (tb_7 (List.mem_of_getElem? (i := 4) (by decide +kernel)))
theorem ml_RX12_133 : Cond.methodLink RX12 133 yX12_look ∈ lw_tbl := (tb_7 (List.mem_of_getElem? (i := 0) (by decide +kernel)))
theorem ml_RX12_140 : Cond.methodLink RX12 140 Lib.MathLoose.min_long.x ∈ lw_tbl := (tb_7 (List.mem_of_getElem? (i := 130) (by decide +kernel)))
theorem ml_RX12_146 : Cond.methodLink RX12 146 Lib.MathLoose.max_long.x ∈ lw_tbl := (tb_7 (List.mem_of_getElem? (i := 131) (by decide +kernel)))
theorem ml_RX12_149 : Cond.methodLink RX12 149 yX12_isAmong ∈ lw_tbl := (tb_7 (List.mem_of_getElem? (i := 90) (by decide +kernel)))
theorem ml_RX12_153 : Cond.methodLink RX12 153 yX12_goesIn ∈ lw_tbl := (tb_7 (List.mem_of_getElem? (i := 121) (by decide +kernel)))
theorem ml_RX12_156 : Cond.methodLink RX12 156 yX12_sum ∈ lw_tbl := (tb_7 (List.mem_of_getElem? (i := 109) (by decide +kernel)))
theorem ml_RX12_159 : Cond.methodLink RX12 159 yX12_takes ∈ lw_tbl := (tb_7 (List.mem_of_getElem? (i := 93) (by decide +kernel)))
theorem ml_RX12_163 : Cond.methodLink RX12 163 yX12_isDigit ∈ lw_tbl := (tb_7 (List.mem_of_getElem? (i := 47) (by decide +kernel)))
theorem ml_RX12_166 : Cond.methodLink RX12 166 yX12_atom ∈ lw_tbl := (tb_7 (List.mem_of_getElem? (i := 117) (by decide +kernel)))
theorem ml_RX12_169 : Cond.methodLink RX12 169 yX12_within ∈ lw_tbl := (tb_7 (List.mem_of_getElem? (i := 125) (by decide +kernel)))
theorem ml_RX12_173 : Cond.methodLink RX12 173 yX12_term ∈ lw_tbl := (tb_7 (List.mem_of_getElem? (i := 113) (by decide +kernel)))
theorem ml_RX12_176 : Cond.methodLink RX12 176 yX12_isSign ∈ lw_tbl := (tb_7 (List.mem_of_getElem? (i := 132) (by decide +kernel)))
theorem ml_RX12_179 : Cond.methodLink RX12 179 yX12_unit ∈ lw_tbl := (tb_7 (List.mem_of_getElem? (i := 135) (by decide +kernel)))
theorem ml_RX12_182 : Cond.methodLink RX12 182 yX12_condition ∈ lw_tbl := (tb_7 (List.mem_of_getElem? (i := 97) (by decide +kernel)))
theorem ml_RX12_186 : Cond.methodLink RX12 186 yX12_compares ∈ lw_tbl := (tb_7 (List.mem_of_getElem? (i := 105) (by decide +kernel)))
theorem ml_RX12_189 : Cond.methodLink RX12 189 yX12_part ∈ lw_tbl := (tb_7 (List.mem_of_getElem? (i := 101) (by decide +kernel)))
theorem ml_RX12_202 : Cond.methodLink RX12 202 yX12_starts ∈ lw_tbl := (tb_6 (List.mem_of_getElem? (i := 229) (by decide +kernel)))
theorem ml_RX12_206 : Cond.methodLink RX12 206 yX12_clause ∈ lw_tbl := (tb_7 (List.mem_of_getElem? (i := 86) (by decide +kernel)))
theorem ml_RX12_209 : Cond.methodLink RX12 209 yX12_here ∈ lw_tbl := (tb_7 (List.mem_of_getElem? (i := 51) (by decide +kernel)))
theorem ml_RX12_212 : Cond.methodLink RX12 212 yX12_isIn ∈ lw_tbl := (tb_6 (List.mem_of_getElem? (i := 222) (by decide +kernel)))
theorem ml_RX12_216 : Cond.methodLink RX12 216 yX12_usual ∈ lw_tbl := (tb_6 (List.mem_of_getElem? (i := 233) (by decide +kernel)))
theorem ml_RX12_220 : Cond.methodLink RX12 220 yX12_spotOf ∈ lw_tbl := (tb_7 (List.mem_of_getElem? (i := 14) (by decide +kernel)))
theorem ml_RX12_224 : Cond.methodLink RX12 224 yX12_has ∈ lw_tbl := (tb_7 (List.mem_of_getElem? (i := 37) (by decide +kernel)))
theorem ml_RX12_228 : Cond.methodLink RX12 228 yX12_mostOf ∈ lw_tbl := (tb_7 (List.mem_of_getElem? (i := 40) (by decide +kernel)))
theorem ml_RX12_231 : Cond.methodLink RX12 231 yX12_number ∈ lw_tbl := (tb_7 (List.mem_of_getElem? (i := 43) (by decide +kernel)))
theorem ml_RX12_238 : Cond.methodLink RX12 238 yX12_begins ∈ lw_tbl := (tb_7 (List.mem_of_getElem? (i := 70) (by decide +kernel)))
theorem ml_RX12_240 : Cond.methodLink RX12 240 yX12_readWord ∈ lw_tbl := (tb_7 (List.mem_of_getElem? (i := 74) (by decide +kernel)))
theorem ml_RX12_255 : Cond.methodLink RX12 255 yX12_readItems ∈ lw_tbl := (tb_7 (List.mem_of_getElem? (i := 9) (by decide +kernel)))
theorem ml_RX12_261 : Cond.methodLink RX12 261 yX12_isBehindColon ∈ lw_tbl := (tb_7 (List.mem_of_getElem? (i := 56) (by decide +kernel)))
theorem ml_RX12_264 : Cond.methodLink RX12 264 yX12_readMarks ∈ lw_tbl := (tb_7 (List.mem_of_getElem? (i := 60) (by decide +kernel)))
theorem ml_RX12_269 : Cond.methodLink RX12 269 yX12_readWords ∈ lw_tbl := (tb_7 (List.mem_of_getElem? (i := 66) (by decide +kernel)))
theorem ml_RX12_272 : Cond.methodLink RX12 272 yX12_readClause ∈ lw_tbl := (tb_6 (List.mem_of_getElem? (i := 236) (by decide +kernel)))
theorem ml_RX12_275 : Cond.methodLink RX12 275 yX12_isWhole ∈ lw_tbl := (tb_7 (List.mem_of_getElem? (i := 78) (by decide +kernel)))
theorem ml_RX12_280 : Cond.methodLink RX12 280 yX12_readCollection ∈ lw_tbl := (tb_6 (List.mem_of_getElem? (i := 225) (by decide +kernel)))
theorem ml_RX12_283 : Cond.methodLink RX12 283 yX12_goThrough ∈ lw_tbl := (tb_7 (List.mem_of_getElem? (i := 82) (by decide +kernel)))
theorem ml_RX12_292 : Cond.methodLink RX12 292 yX12_fault ∈ lw_tbl := (tb_7 (List.mem_of_getElem? (i := 143) (by decide +kernel)))
theorem ml_RX12_300 : Cond.methodLink RX12 300 yX12_lays ∈ lw_tbl := (tb_7 (List.mem_of_getElem? (i := 144) (by decide +kernel)))
theorem ml_RX12_313 : Cond.methodLink RX12 313 yX12_whatOf ∈ lw_tbl := (tb_7 (List.mem_of_getElem? (i := 186) (by decide +kernel)))
theorem ml_RX12_317 : Cond.methodLink RX12 317 yX12_sortOf ∈ lw_tbl := (tb_7 (List.mem_of_getElem? (i := 189) (by decide +kernel)))
theorem ml_RX12_320 : Cond.methodLink RX12 320 yX12_marks ∈ lw_tbl := (tb_7 (List.mem_of_getElem? (i := 192) (by decide +kernel)))
theorem ml_RX12_323 : Cond.methodLink RX12 323 yX12_wordsOf ∈ lw_tbl := (tb_7 (List.mem_of_getElem? (i := 168) (by decide +kernel)))
theorem ml_RX12_327 : Cond.methodLink RX12 327 yX12_inkOf ∈ lw_tbl := (tb_7 (List.mem_of_getElem? (i := 179) (by decide +kernel)))
theorem ml_RX12_330 : Cond.methodLink RX12 330 yX12_isTrue ∈ lw_tbl := (tb_7 (List.mem_of_getElem? (i := 182) (by decide +kernel)))
theorem ml_RX12_334 : Cond.methodLink RX12 334 yX12_fitsIn ∈ lw_tbl := (tb_7 (List.mem_of_getElem? (i := 175) (by decide +kernel)))
theorem ml_RX12_338 : Cond.methodLink RX12 338 Lib.Math.min.name ∈ lw_tbl := (tb_8 (List.mem_of_getElem? (i := 26) (by decide +kernel)))
theorem ml_RX12_340 : Cond.methodLink RX12 340 Lib.Math.max.name ∈ lw_tbl := (tb_8 (List.mem_of_getElem? (i := 27) (by decide +kernel)))
theorem ml_RX12_342 : Cond.methodLink RX12 342 yX12_fadeOf ∈ lw_tbl := (tb_8 (List.mem_of_getElem? (i := 22) (by decide +kernel)))
theorem ml_RX12_345 : Cond.methodLink RX12 345 yX12_cardOver ∈ lw_tbl := (tb_7 (List.mem_of_getElem? (i := 155) (by decide +kernel)))
theorem ml_RX12_348 : Cond.methodLink RX12 348 yX12_fades ∈ lw_tbl := (tb_8 (List.mem_of_getElem? (i := 18) (by decide +kernel)))
theorem ml_RX12_352 : Cond.methodLink RX12 352 yX12_isRight ∈ lw_tbl := (tb_7 (List.mem_of_getElem? (i := 171) (by decide +kernel)))
theorem ml_RX12_356 : Cond.methodLink RX12 356 yX12_isChanged ∈ lw_tbl := (tb_8 (List.mem_of_getElem? (i := 28) (by decide +kernel)))
theorem ml_RX12_359 : Cond.methodLink RX12 359 yX12_isThing ∈ lw_tbl := (tb_7 (List.mem_of_getElem? (i := 151) (by decide +kernel)))
theorem ml_RX12_362 : Cond.methodLink RX12 362 yX12_isCard ∈ lw_tbl := (tb_7 (List.mem_of_getElem? (i := 163) (by decide +kernel)))
theorem ml_RX12_372 : Cond.methodLink RX12 372 yX12_remember ∈ lw_tbl := (tb_7 (List.mem_of_getElem? (i := 217) (by decide +kernel)))
theorem ml_RX12_375 : Cond.methodLink RX12 375 yX12_leftOf ∈ lw_tbl := (tb_7 (List.mem_of_getElem? (i := 229) (by decide +kernel)))
theorem ml_RX12_380 : Cond.methodLink RX12 380 yX12_isReading ∈ lw_tbl := (tb_8 (List.mem_of_getElem? (i := 5) (by decide +kernel)))
theorem ml_RX12_385 : Cond.methodLink RX12 385 yX12_goDay ∈ lw_tbl := (tb_8 (List.mem_of_getElem? (i := 14) (by decide +kernel)))
theorem ml_RX12_397 : Cond.methodLink RX12 397 yX12_draw ∈ lw_tbl := (tb_8 (List.mem_of_getElem? (i := 36) (by decide +kernel)))
theorem ml_RX12_409 : Cond.methodLink RX12 409 yX12_goMatch ∈ lw_tbl := (tb_8 (List.mem_of_getElem? (i := 66) (by decide +kernel)))
theorem ml_RX12_413 : Cond.methodLink RX12 413 yX12_copies ∈ lw_tbl := (tb_8 (List.mem_of_getElem? (i := 62) (by decide +kernel)))
theorem ml_RX12_418 : Cond.methodLink RX12 418 yX12_canBeRight ∈ lw_tbl := (tb_8 (List.mem_of_getElem? (i := 75) (by decide +kernel)))
theorem ml_RX12_422 : Cond.methodLink RX12 422 yJ6_bitCount_0f7a4 ∈ lw_tbl := (tb_8 (List.mem_of_getElem? (i := 74) (by decide +kernel)))
theorem ml_RX12_427 : Cond.methodLink RX12 427 yX12_goneOf ∈ lw_tbl := (tb_8 (List.mem_of_getElem? (i := 95) (by decide +kernel)))
theorem ml_RX12_430 : Cond.methodLink RX12 430 yX12_fitsBy ∈ lw_tbl := (tb_8 (List.mem_of_getElem? (i := 106) (by decide +kernel)))
theorem ml_RX12_433 : Cond.methodLink RX12 433 yX12_canAsk ∈ lw_tbl := (tb_8 (List.mem_of_getElem? (i := 91) (by decide +kernel)))
theorem ml_RX12_436 : Cond.methodLink RX12 436 yX12_rowsOf ∈ lw_tbl := (tb_8 (List.mem_of_getElem? (i := 99) (by decide +kernel)))
theorem ml_RX12_439 : Cond.methodLink RX12 439 yX12_isRow ∈ lw_tbl := (tb_8 (List.mem_of_getElem? (i := 102) (by decide +kernel)))
theorem ml_RX12_442 : Cond.methodLink RX12 442 yX12_once ∈ lw_tbl := (tb_8 (List.mem_of_getElem? (i := 114) (by decide +kernel)))
theorem ml_RX12_445 : Cond.methodLink RX12 445 Lib.Math.abs.name ∈ lw_tbl := (tb_8 (List.mem_of_getElem? (i := 115) (by decide +kernel)))
theorem ml_RX12_448 : Cond.methodLink RX12 448 yX12_leads ∈ lw_tbl := (tb_8 (List.mem_of_getElem? (i := 124) (by decide +kernel)))
theorem ml_RX12_451 : Cond.methodLink RX12 451 yX12_suitsOf ∈ lw_tbl := (tb_8 (List.mem_of_getElem? (i := 144) (by decide +kernel)))
theorem ml_RX12_460 : Cond.methodLink RX12 460 yX12_oddsOf ∈ lw_tbl := (tb_8 (List.mem_of_getElem? (i := 170) (by decide +kernel)))
theorem ml_RX2_54 : Cond.methodLink RX2 54 yX1_isCard ∈ lw_tbl := (tb_5 (List.mem_of_getElem? (i := 88) (by decide +kernel)))
theorem ml_RX2_75 : Cond.methodLink RX2 75 yX10_leftIn ∈ lw_tbl := (tb_5 (List.mem_of_getElem? (i := 89) (by decide +kernel)))
theorem ml_RX2_79 : Cond.methodLink RX2 79 yX10_named ∈ lw_tbl := (tb_5 (List.mem_of_getElem? (i := 90) (by decide +kernel)))
theorem ml_RX2_83 : Cond.methodLink RX2 83 yX2_isRow ∈ lw_tbl := (tb_5 (List.mem_of_getElem? (i := 95) (by decide +kernel)))
theorem ml_RX2_88 : Cond.methodLink RX2 88 yX2_wouldFit ∈ lw_tbl := (tb_5 (List.mem_of_getElem? (i := 103) (by decide +kernel)))
theorem ml_RX2_91 : Cond.methodLink RX2 91 Lib.Math.abs.name ∈ lw_tbl := (tb_5 (List.mem_of_getElem? (i := 120) (by decide +kernel)))
theorem ml_RX2_96 : Cond.methodLink RX2 96 yX2_thingsFitting ∈ lw_tbl := (tb_5 (List.mem_of_getElem? (i := 131) (by decide +kernel)))
theorem ml_RX2_99 : Cond.methodLink RX2 99 yX2_layOut ∈ lw_tbl := (tb_5 (List.mem_of_getElem? (i := 99) (by decide +kernel)))
theorem ml_RX2_103 : Cond.methodLink RX2 103 yX1_isThing ∈ lw_tbl := (tb_5 (List.mem_of_getElem? (i := 107) (by decide +kernel)))
theorem ml_RX3_25 : Cond.methodLink RX3 25 yX7_takeAll ∈ lw_tbl := (tb_4 (List.mem_of_getElem? (i := 97) (by decide +kernel)))
theorem ml_RX3_29 : Cond.methodLink RX3 29 Lib.Math.min.name ∈ lw_tbl := (tb_4 (List.mem_of_getElem? (i := 98) (by decide +kernel)))
theorem ml_RX4_25 : Cond.methodLink RX4 25 yX8_rewind ∈ lw_tbl := (tb_2 (List.mem_of_getElem? (i := 228) (by decide +kernel)))
theorem ml_RX4_28 : Cond.methodLink RX4 28 yX4_readClause ∈ lw_tbl := (tb_2 (List.mem_of_getElem? (i := 232) (by decide +kernel)))
theorem ml_RX4_34 : Cond.methodLink RX4 34 yX4_emit ∈ lw_tbl := (tb_3 (List.mem_of_getElem? (i := 101) (by decide +kernel)))
theorem ml_RX4_38 : Cond.methodLink RX4 38 yX8_accept ∈ lw_tbl := (tb_2 (List.mem_of_getElem? (i := 236) (by decide +kernel)))
theorem ml_RX4_41 : Cond.methodLink RX4 41 yX8_peek ∈ lw_tbl := (tb_3 (List.mem_of_getElem? (i := 8) (by decide +kernel)))
theorem ml_RX4_45 : Cond.methodLink RX4 45 yX4_readSum ∈ lw_tbl := (tb_3 (List.mem_of_getElem? (i := 9) (by decide +kernel)))
theorem ml_RX4_48 : Cond.methodLink RX4 48 yX4_isComparing ∈ lw_tbl := (tb_3 (List.mem_of_getElem? (i := 113) (by decide +kernel)))
theorem ml_RX4_51 : Cond.methodLink RX4 51 yX4_readUnit ∈ lw_tbl := (tb_3 (List.mem_of_getElem? (i := 117) (by decide +kernel)))
theorem ml_RX4_54 : Cond.methodLink RX4 54 yX4_readComparison ∈ lw_tbl := (tb_3 (List.mem_of_getElem? (i := 121) (by decide +kernel)))
theorem ml_RX4_57 : Cond.methodLink RX4 57 yX4_readMoreUnits ∈ lw_tbl := (tb_3 (List.mem_of_getElem? (i := 125) (by decide +kernel)))
theorem ml_RX4_60 : Cond.methodLink RX4 60 yX8_step ∈ lw_tbl := (tb_3 (List.mem_of_getElem? (i := 17) (by decide +kernel)))
theorem ml_RX4_63 : Cond.methodLink RX4 63 yX4_readAtom ∈ lw_tbl := (tb_3 (List.mem_of_getElem? (i := 13) (by decide +kernel)))
theorem ml_RX4_66 : Cond.methodLink RX4 66 yX4_joining ∈ lw_tbl := (tb_3 (List.mem_of_getElem? (i := 109) (by decide +kernel)))
theorem ml_RX4_72 : Cond.methodLink RX4 72 yJ0_indexOf_0f7a4 ∈ lw_tbl := (tb_3 (List.mem_of_getElem? (i := 19) (by decide +kernel)))
theorem ml_RX4_77 : Cond.methodLink RX4 77 yX8_readNumber ∈ lw_tbl := (tb_3 (List.mem_of_getElem? (i := 105) (by decide +kernel)))
theorem ml_RX5_35 : Cond.methodLink RX5 35 arraycopyName ∈ lw_tbl := (tb_3 (List.mem_of_getElem? (i := 226) (by decide +kernel)))
theorem ml_RX5_41 : Cond.methodLink RX5 41 yX5_clauseEnd ∈ lw_tbl := (tb_4 (List.mem_of_getElem? (i := 157) (by decide +kernel)))
theorem ml_RX5_45 : Cond.methodLink RX5 45 yX5_join ∈ lw_tbl := (tb_4 (List.mem_of_getElem? (i := 161) (by decide +kernel)))
theorem ml_RX5_49 : Cond.methodLink RX5 49 yX5_within ∈ lw_tbl := (tb_4 (List.mem_of_getElem? (i := 165) (by decide +kernel)))
theorem ml_RX5_57 : Cond.methodLink RX5 57 Lib.MathLoose.min_long.x ∈ lw_tbl := (tb_4 (List.mem_of_getElem? (i := 171) (by decide +kernel)))
theorem ml_RX5_63 : Cond.methodLink RX5 63 Lib.MathLoose.max_long.x ∈ lw_tbl := (tb_4 (List.mem_of_getElem? (i := 174) (by decide +kernel)))
theorem ml_RX6_47 : Cond.methodLink RX6 47 yX6_prepare ∈ lw_tbl := (tb_5 (List.mem_of_getElem? (i := 6) (by decide +kernel)))
theorem ml_RX6_50 : Cond.methodLink RX6 50 yX6_search ∈ lw_tbl := (tb_5 (List.mem_of_getElem? (i := 34) (by decide +kernel)))
theorem ml_RX6_59 : Cond.methodLink RX6 59 yJ6_bitCount_0f7a4 ∈ lw_tbl := (tb_5 (List.mem_of_getElem? (i := 54) (by decide +kernel)))
theorem ml_RX6_65 : Cond.methodLink RX6 65 yX6_canAll ∈ lw_tbl := (tb_5 (List.mem_of_getElem? (i := 60) (by decide +kernel)))
theorem ml_RX6_72 : Cond.methodLink RX6 72 yX6_alikeThings ∈ lw_tbl := (tb_5 (List.mem_of_getElem? (i := 10) (by decide +kernel)))
theorem ml_RX6_75 : Cond.methodLink RX6 75 yX6_sortByPrice ∈ lw_tbl := (tb_5 (List.mem_of_getElem? (i := 14) (by decide +kernel)))
theorem ml_RX6_88 : Cond.methodLink RX6 88 yX10_named ∈ lw_tbl := (tb_5 (List.mem_of_getElem? (i := 18) (by decide +kernel)))
theorem ml_RX6_94 : Cond.methodLink RX6 94 yX6_ableThings ∈ lw_tbl := (tb_5 (List.mem_of_getElem? (i := 22) (by decide +kernel)))
theorem ml_RX6_98 : Cond.methodLink RX6 98 yX6_narrow ∈ lw_tbl := (tb_5 (List.mem_of_getElem? (i := 26) (by decide +kernel)))
theorem ml_RX6_102 : Cond.methodLink RX6 102 yX6_linkedAhead ∈ lw_tbl := (tb_5 (List.mem_of_getElem? (i := 30) (by decide +kernel)))
theorem ml_RX6_111 : Cond.methodLink RX6 111 yX6_leastPrices ∈ lw_tbl := (tb_5 (List.mem_of_getElem? (i := 38) (by decide +kernel)))
theorem ml_RX6_114 : Cond.methodLink RX6 114 yX6_agrees ∈ lw_tbl := (tb_5 (List.mem_of_getElem? (i := 42) (by decide +kernel)))
theorem ml_RX7_34 : Cond.methodLink RX7 34 yX10_takeAll ∈ lw_tbl := (tb_4 (List.mem_of_getElem? (i := 1) (by decide +kernel)))
theorem ml_RX7_38 : Cond.methodLink RX7 38 arraycopyName ∈ lw_tbl := (tb_4 (List.mem_of_getElem? (i := 6) (by decide +kernel)))
theorem ml_RX8_22 : Cond.methodLink RX8 22 yX8_peek ∈ lw_tbl := (tb_3 (List.mem_of_getElem? (i := 0) (by decide +kernel)))
theorem ml_RX8_26 : Cond.methodLink RX8 26 yX8_step ∈ lw_tbl := (tb_3 (List.mem_of_getElem? (i := 4) (by decide +kernel)))
theorem ml_RX9_39 : Cond.methodLink RX9 39 yX8_rewind ∈ lw_tbl := (tb_3 (List.mem_of_getElem? (i := 133) (by decide +kernel)))
theorem ml_RX9_47 : Cond.methodLink RX9 47 yX9_readWords ∈ lw_tbl := (tb_3 (List.mem_of_getElem? (i := 134) (by decide +kernel)))
theorem ml_RX9_51 : Cond.methodLink RX9 51 yX8_peek ∈ lw_tbl := (tb_3 (List.mem_of_getElem? (i := 138) (by decide +kernel)))
theorem ml_RX9_80 : Cond.methodLink RX9 80 yX9_readClause ∈ lw_tbl := (tb_3 (List.mem_of_getElem? (i := 154) (by decide +kernel)))
theorem ml_RX9_84 : Cond.methodLink RX9 84 yX8_accept ∈ lw_tbl := (tb_3 (List.mem_of_getElem? (i := 188) (by decide +kernel)))
theorem ml_RX9_88 : Cond.methodLink RX9 88 yX9_isWhole ∈ lw_tbl := (tb_3 (List.mem_of_getElem? (i := 204) (by decide +kernel)))
theorem ml_RX9_94 : Cond.methodLink RX9 94 yX1_isThing ∈ lw_tbl := (tb_3 (List.mem_of_getElem? (i := 208) (by decide +kernel)))
theorem ml_RX9_97 : Cond.methodLink RX9 97 yX8_step ∈ lw_tbl := (tb_3 (List.mem_of_getElem? (i := 139) (by decide +kernel)))
theorem ml_RX9_100 : Cond.methodLink RX9 100 yX9_readRules ∈ lw_tbl := (tb_3 (List.mem_of_getElem? (i := 158) (by decide +kernel)))
theorem ml_RX9_103 : Cond.methodLink RX9 103 yX9_readThing ∈ lw_tbl := (tb_3 (List.mem_of_getElem? (i := 177) (by decide +kernel)))
theorem ml_RX9_106 : Cond.methodLink RX9 106 yX9_readCard ∈ lw_tbl := (tb_3 (List.mem_of_getElem? (i := 193) (by decide +kernel)))
theorem ml_RX9_117 : Cond.methodLink RX9 117 yX9_readItems ∈ lw_tbl := (tb_3 (List.mem_of_getElem? (i := 167) (by decide +kernel)))
theorem ml_RX9_132 : Cond.methodLink RX9 132 yX9_readMarks ∈ lw_tbl := (tb_3 (List.mem_of_getElem? (i := 189) (by decide +kernel)))
theorem ml_RX9_158 : Cond.methodLink RX9 158 Lib.Math.min.name ∈ lw_tbl := (tb_3 (List.mem_of_getElem? (i := 171) (by decide +kernel)))
theorem ml_RX9_164 : Cond.methodLink RX9 164 arraycopyName ∈ lw_tbl := (tb_3 (List.mem_of_getElem? (i := 172) (by decide +kernel)))
theorem ml_RX9_170 : Cond.methodLink RX9 170 yJ0_indexOf_0f7a4 ∈ lw_tbl := (tb_3 (List.mem_of_getElem? (i := 175) (by decide +kernel)))
theorem ml_RX9_176 : Cond.methodLink RX9 176 yX8_readNumber ∈ lw_tbl := (tb_3 (List.mem_of_getElem? (i := 176) (by decide +kernel)))
theorem ml_RX9_180 : Cond.methodLink RX9 180 yX9_readAbout ∈ lw_tbl := (tb_3 (List.mem_of_getElem? (i := 140) (by decide +kernel)))
theorem ml_RX9_183 : Cond.methodLink RX9 183 yX10_add ∈ lw_tbl := (tb_3 (List.mem_of_getElem? (i := 144) (by decide +kernel)))
theorem cs_RJ0_1053 : Cond.fieldLink RJ0 1053 "jdk/internal/util/Preconditions" "SIOOBE_FORMATTER" "Ljava/util/function/BiFunction;" ∈ lw_tbl := (tb_3 (List.mem_of_getElem? (i := 70) (by decide +kernel)))
theorem cs_RJ0_15 : Cond.fieldLink RJ0 15 "java/lang/String" "coder" "B" ∈ lw_tbl := (tb_8 (List.mem_of_getElem? (i := 210) (by decide +kernel)))
theorem cs_RJ0_38 : Cond.fieldLink RJ0 38 "java/lang/String" "COMPACT_STRINGS" "Z" ∈ lw_tbl := (tb_3 (List.mem_of_getElem? (i := 31) (by decide +kernel)))
theorem cs_RJ0_9 : Cond.fieldLink RJ0 9 "java/lang/String" "value" "[B" ∈ lw_tbl := (tb_8 (List.mem_of_getElem? (i := 211) (by decide +kernel)))
theorem cs_RJ6_265 : Cond.constant RJ6 265 (1431655765) ∈ lw_tbl := by decide +kernel
theorem cs_RJ6_266 : Cond.constant RJ6 266 (858993459) ∈ lw_tbl := by decide +kernel
theorem cs_RJ6_267 : Cond.constant RJ6 267 (252645135) ∈ lw_tbl := by decide +kernel
theorem cs_RX11_251 : Cond.constant RX11 251 (-1000000) ∈ lw_tbl := by decide +kernel
theorem cs_RX11_280 : Cond.constantLong RX11 280 (6364136223846793005) ∈ lw_tbl := by decide +kernel
theorem cs_RX11_282 : Cond.constantLong RX11 282 (1442695040888963407) ∈ lw_tbl := by decide +kernel
theorem cs_RX11_367 : Cond.constantLong RX11 367 (1000000000) ∈ lw_tbl := by decide +kernel
theorem cs_RX11_369 : Cond.constantLong RX11 369 (100) ∈ lw_tbl := by decide +kernel
theorem cs_RX12_136 : Cond.constantLong RX12 136 (-1000000) ∈ lw_tbl := by decide +kernel
theorem cs_RX12_138 : Cond.constantLong RX12 138 (1000000) ∈ lw_tbl := by decide +kernel
theorem cs_RX12_278 : Cond.constantLong RX12 278 (2) ∈ lw_tbl := by decide +kernel
theorem cs_RX12_365 : Cond.constantLong RX12 365 (3) ∈ lw_tbl := by decide +kernel
theorem cs_RX12_367 : Cond.constantLong RX12 367 (99) ∈ lw_tbl := by decide +kernel
theorem cs_RX12_378 : Cond.constantLong RX12 378 (9) ∈ lw_tbl := by decide +kernel
theorem cs_RX12_383 : Cond.constantLong RX12 383 (60) ∈ lw_tbl := by decide +kernel
theorem cs_RX12_393 : Cond.constantLong RX12 393 (6364136223846793005) ∈ lw_tbl := by decide +kernel
theorem cs_RX12_395 : Cond.constantLong RX12 395 (1442695040888963407) ∈ lw_tbl := by decide +kernel
theorem cs_RX12_417 : Cond.constant RX12 417 (1000000) ∈ lw_tbl := by decide +kernel
theorem cs_RX12_454 : Cond.constantLong RX12 454 (1000000000) ∈ lw_tbl := by decide +kernel
theorem cs_RX12_456 : Cond.constantLong RX12 456 (100) ∈ lw_tbl := by decide +kernel
theorem cs_RX12_458 : Cond.constantLong RX12 458 (30) ∈ lw_tbl := by decide +kernel
theorem cs_RX12_464 : Cond.constant RX12 464 (-1000000) ∈ lw_tbl := by decide +kernel
theorem cs_RX5_53 : Cond.constantLong RX5 53 (-1000000) ∈ lw_tbl := by decide +kernel
theorem cs_RX5_55 : Cond.constantLong RX5 55 (1000000) ∈ lw_tbl := by decide +kernel
theorem cs_RX9_111 : Cond.fieldLink RX9 111 "LabelRoom$TextReader" "RULE_LEAST" "[I" ∈ lw_tbl := (tb_3 (List.mem_of_getElem? (i := 163) (by decide +kernel)))
theorem cs_RX9_114 : Cond.fieldLink RX9 114 "LabelRoom$TextReader" "RULE_MOST" "[I" ∈ lw_tbl := (tb_3 (List.mem_of_getElem? (i := 165) (by decide +kernel)))
theorem cs_RX9_123 : Cond.fieldLink RX9 123 "LabelRoom$TextReader" "THING_USUAL" "[I" ∈ lw_tbl := (tb_3 (List.mem_of_getElem? (i := 182) (by decide +kernel)))
theorem cs_RX9_126 : Cond.fieldLink RX9 126 "LabelRoom$TextReader" "THING_LEAST" "[I" ∈ lw_tbl := (tb_3 (List.mem_of_getElem? (i := 184) (by decide +kernel)))
theorem cs_RX9_129 : Cond.fieldLink RX9 129 "LabelRoom$TextReader" "THING_MOST" "[I" ∈ lw_tbl := (tb_3 (List.mem_of_getElem? (i := 186) (by decide +kernel)))
theorem cs_RX9_143 : Cond.fieldLink RX9 143 "LabelRoom$TextReader" "CARD_USUAL" "[I" ∈ lw_tbl := (tb_3 (List.mem_of_getElem? (i := 198) (by decide +kernel)))
theorem cs_RX9_146 : Cond.fieldLink RX9 146 "LabelRoom$TextReader" "CARD_LEAST" "[I" ∈ lw_tbl := (tb_3 (List.mem_of_getElem? (i := 200) (by decide +kernel)))
theorem cs_RX9_149 : Cond.fieldLink RX9 149 "LabelRoom$TextReader" "CARD_MOST" "[I" ∈ lw_tbl := (tb_3 (List.mem_of_getElem? (i := 202) (by decide +kernel)))
theorem cs_RX9_66 : Cond.fieldLink RX9 66 "LabelRoom$TextReader" "RULE_USUAL" "[I" ∈ lw_tbl := (tb_3 (List.mem_of_getElem? (i := 152) (by decide +kernel)))
