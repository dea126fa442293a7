section
theorem e2 {xs : Nat → Int32} {xl : Nat} {I J : w_I} {b : Bool} {Q : Option Value → w_I → w_I → Bool → Prop} (t : w_T xs xl 2 0 [some (.ref 20)] [] [] I J b Q) : w_C xs xl 2 [.ref 20] I J b Q := w_en rfl t
theorem b2_0 {xs : Nat → Int32} {xl : Nat} {I J : w_I} {b : Bool} {Q : Option Value → w_I → w_I → Bool → Prop} (k : w_C xs xl 3 [.ref 20] (w_U (w_U (w_U (w_U I 20 13 0) 20 14 0) 20 15 0) 20 16 0) J b (fun v Ic Jc bc => w_T xs xl 2 24 [some (.ref 20)] [] (w_pv v []) Ic Jc bc Q)) : w_T xs xl 2 0 [some (.ref 20)] [] [] I J b Q := by
  refine w_aload_n (q := 1) rfl rfl rfl ?_
  refine w_iconst (q := 2) rfl rfl ?_
  refine w_pfi (q := 5) (k' := 13) rfl rfl rfl rfl ?_
  refine w_aload_n (q := 6) rfl rfl rfl ?_
  refine w_iconst (q := 7) rfl rfl ?_
  refine w_pfi (q := 10) (k' := 14) rfl rfl rfl rfl ?_
  refine w_aload_n (q := 11) rfl rfl rfl ?_
  refine w_iconst (q := 12) rfl rfl ?_
  refine w_pfi (q := 15) (k' := 15) rfl rfl rfl rfl ?_
  refine w_aload_n (q := 16) rfl rfl rfl ?_
  refine w_iconst (q := 17) rfl rfl ?_
  refine w_pfi (q := 20) (k' := 16) rfl rfl rfl rfl ?_
  refine w_aload_n (q := 21) rfl rfl rfl ?_
  refine w_callv (q := 24) rfl rfl rfl rfl rfl rfl ?_
  exact k
theorem b2_24 {xs : Nat → Int32} {xl : Nat} {I J : w_I} {b : Bool} {Q : Option Value → w_I → w_I → Bool → Prop} (k : Q none I J b) : w_T xs xl 2 24 [some (.ref 20)] [] [] I J b Q := by
  exact w_vret rfl k
theorem e3 {xs : Nat → Int32} {xl : Nat} {I J : w_I} {b : Bool} {Q : Option Value → w_I → w_I → Bool → Prop} (t : w_T xs xl 3 0 [some (.ref 20)] [] [] I J b Q) : w_C xs xl 3 [.ref 20] I J b Q := w_en rfl t
theorem b3_0 {xs : Nat → Int32} {xl : Nat} {I J : w_I} {b : Bool} {Q : Option Value → w_I → w_I → Bool → Prop} (k : w_C xs xl 295 [.ref 30, w_i (-1)] I J b (fun v Ic Jc bc => w_T xs xl 3 8 [some (.ref 20)] [] (w_pv v []) Ic Jc bc Q)) : w_T xs xl 3 0 [some (.ref 20)] [] [] I J b Q := by
  refine w_aload_n (q := 1) rfl rfl rfl ?_
  refine w_gfr (q := 4) rfl rfl rfl rfl (j := 30) rfl ?_
  refine w_iconst (q := 5) rfl rfl ?_
  refine w_call (q := 8) rfl rfl rfl rfl rfl ?_
  exact k
theorem b3_8 {xs : Nat → Int32} {xl : Nat} {I J : w_I} {b : Bool} {Q : Option Value → w_I → w_I → Bool → Prop} (k : Q none I J b) : w_T xs xl 3 8 [some (.ref 20)] [] [] I J b Q := by
  exact w_vret rfl k
theorem e4_20_34 {xs : Nat → Int32} {xl : Nat} {I J : w_I} {b : Bool} {Q : Option Value → w_I → w_I → Bool → Prop} (t : w_T xs xl 4 0 [some (.ref 20), some (.ref 34)] [] [] I J b Q) : w_C xs xl 4 [.ref 20, .ref 34] I J b Q := w_en rfl t
theorem b4_0_20_34 {xs : Nat → Int32} {xl : Nat} {I J : w_I} {b : Bool} {Q : Option Value → w_I → w_I → Bool → Prop} (k : (((0 : Int) ≤ 0 ∧ (0 : Int) ≤ 0 ∧ (0 : Int) ≤ I 34 13 ∧ 0 + I 34 13 ≤ (60 : Int) ∧ 0 + I 34 13 ≤ (60 : Int)) ∧ (((0 : Int) ≤ 0 ∧ (0 : Int) ≤ 0 ∧ (0 : Int) ≤ I 34 14 ∧ 0 + I 34 14 ≤ (30 : Int) ∧ 0 + I 34 14 ≤ (30 : Int)) ∧ (((0 : Int) ≤ 0 ∧ (0 : Int) ≤ 0 ∧ (0 : Int) ≤ I 34 16 ∧ 0 + I 34 16 ≤ (40 : Int) ∧ 0 + I 34 16 ≤ (40 : Int)) ∧ Q none (w_cp (w_cp (w_cp (w_cp (w_cp (w_cp (w_cp (w_cp (w_cp (w_cp (w_cp (w_cp (w_cp (w_U (w_U (w_U (w_U I 20 13 (I 34 13)) 20 14 (I 34 14)) 20 15 (I 34 15)) 20 16 (I 34 16)) 21 35 0 0 (I 34 13)) 22 36 0 0 (I 34 13)) 23 37 0 0 (I 34 13)) 24 38 0 0 (I 34 13)) 25 39 0 0 (I 34 13)) 26 40 0 0 (I 34 14)) 27 41 0 0 (I 34 14)) 28 42 0 0 (I 34 14)) 29 43 0 0 (I 34 14)) 30 44 0 0 24) 31 45 0 0 (I 34 16)) 32 46 0 0 (I 34 16)) 33 47 0 0 (I 34 16)) J b)))) : w_T xs xl 4 0 [some (.ref 20), some (.ref 34)] [] [] I J b Q := by
  refine w_aload_n (q := 1) rfl rfl rfl ?_
  refine w_aload_n (q := 2) rfl rfl rfl ?_
  refine w_gfi (q := 5) (k' := 13) (v := I 34 13) rfl rfl rfl rfl rfl rfl rfl ?_
  refine w_pfi (q := 8) (k' := 13) rfl rfl rfl rfl ?_
  refine w_aload_n (q := 9) rfl rfl rfl ?_
  refine w_aload_n (q := 10) rfl rfl rfl ?_
  refine w_gfi (q := 13) (k' := 14) (v := I 34 14) rfl rfl rfl rfl rfl rfl rfl ?_
  refine w_pfi (q := 16) (k' := 14) rfl rfl rfl rfl ?_
  refine w_aload_n (q := 17) rfl rfl rfl ?_
  refine w_aload_n (q := 18) rfl rfl rfl ?_
  refine w_gfi (q := 21) (k' := 15) (v := I 34 15) rfl rfl rfl rfl rfl rfl rfl ?_
  refine w_pfi (q := 24) (k' := 15) rfl rfl rfl rfl ?_
  refine w_aload_n (q := 25) rfl rfl rfl ?_
  refine w_aload_n (q := 26) rfl rfl rfl ?_
  refine w_gfi (q := 29) (k' := 16) (v := I 34 16) rfl rfl rfl rfl rfl rfl rfl ?_
  refine w_pfi (q := 32) (k' := 16) rfl rfl rfl rfl ?_
  refine w_aload_n (q := 33) rfl rfl rfl ?_
  refine w_gfr (q := 36) rfl rfl rfl rfl (j := 35) rfl ?_
  refine w_iconst (q := 37) rfl rfl ?_
  refine w_aload_n (q := 38) rfl rfl rfl ?_
  refine w_gfr (q := 41) rfl rfl rfl rfl (j := 21) rfl ?_
  refine w_iconst (q := 42) rfl rfl ?_
  refine w_aload_n (q := 43) rfl rfl rfl ?_
  refine w_gfi (q := 46) (k' := 13) (v := I 34 13) rfl rfl rfl rfl rfl rfl rfl ?_
  obtain ⟨h1, k⟩ := k
  refine w_copy (q := 49) rfl rfl (n1 := 60) (n0 := 60) rfl rfl rfl rfl rfl h1 ?_
  refine w_aload_n (q := 50) rfl rfl rfl ?_
  refine w_gfr (q := 53) rfl rfl rfl rfl (j := 36) rfl ?_
  refine w_iconst (q := 54) rfl rfl ?_
  refine w_aload_n (q := 55) rfl rfl rfl ?_
  refine w_gfr (q := 58) rfl rfl rfl rfl (j := 22) rfl ?_
  refine w_iconst (q := 59) rfl rfl ?_
  refine w_aload_n (q := 60) rfl rfl rfl ?_
  refine w_gfi (q := 63) (k' := 13) (v := I 34 13) rfl rfl rfl rfl rfl rfl rfl ?_
  refine w_copy (q := 66) rfl rfl (n1 := 60) (n0 := 60) rfl rfl rfl rfl rfl h1 ?_
  refine w_aload_n (q := 67) rfl rfl rfl ?_
  refine w_gfr (q := 70) rfl rfl rfl rfl (j := 37) rfl ?_
  refine w_iconst (q := 71) rfl rfl ?_
  refine w_aload_n (q := 72) rfl rfl rfl ?_
  refine w_gfr (q := 75) rfl rfl rfl rfl (j := 23) rfl ?_
  refine w_iconst (q := 76) rfl rfl ?_
  refine w_aload_n (q := 77) rfl rfl rfl ?_
  refine w_gfi (q := 80) (k' := 13) (v := I 34 13) rfl rfl rfl rfl rfl rfl rfl ?_
  refine w_copy (q := 83) rfl rfl (n1 := 60) (n0 := 60) rfl rfl rfl rfl rfl h1 ?_
  refine w_aload_n (q := 84) rfl rfl rfl ?_
  refine w_gfr (q := 87) rfl rfl rfl rfl (j := 38) rfl ?_
  refine w_iconst (q := 88) rfl rfl ?_
  refine w_aload_n (q := 89) rfl rfl rfl ?_
  refine w_gfr (q := 92) rfl rfl rfl rfl (j := 24) rfl ?_
  refine w_iconst (q := 93) rfl rfl ?_
  refine w_aload_n (q := 94) rfl rfl rfl ?_
  refine w_gfi (q := 97) (k' := 13) (v := I 34 13) rfl rfl rfl rfl rfl rfl rfl ?_
  refine w_copy (q := 100) rfl rfl (n1 := 60) (n0 := 60) rfl rfl rfl rfl rfl h1 ?_
  refine w_aload_n (q := 101) rfl rfl rfl ?_
  refine w_gfr (q := 104) rfl rfl rfl rfl (j := 39) rfl ?_
  refine w_iconst (q := 105) rfl rfl ?_
  refine w_aload_n (q := 106) rfl rfl rfl ?_
  refine w_gfr (q := 109) rfl rfl rfl rfl (j := 25) rfl ?_
  refine w_iconst (q := 110) rfl rfl ?_
  refine w_aload_n (q := 111) rfl rfl rfl ?_
  refine w_gfi (q := 114) (k' := 13) (v := I 34 13) rfl rfl rfl rfl rfl rfl rfl ?_
  refine w_copy (q := 117) rfl rfl (n1 := 60) (n0 := 60) rfl rfl rfl rfl rfl h1 ?_
  refine w_aload_n (q := 118) rfl rfl rfl ?_
  refine w_gfr (q := 121) rfl rfl rfl rfl (j := 40) rfl ?_
  refine w_iconst (q := 122) rfl rfl ?_
  refine w_aload_n (q := 123) rfl rfl rfl ?_
  refine w_gfr (q := 126) rfl rfl rfl rfl (j := 26) rfl ?_
  refine w_iconst (q := 127) rfl rfl ?_
  refine w_aload_n (q := 128) rfl rfl rfl ?_
  refine w_gfi (q := 131) (k' := 14) (v := I 34 14) rfl rfl rfl rfl rfl rfl rfl ?_
  obtain ⟨h2, k⟩ := k
  refine w_copy (q := 134) rfl rfl (n1 := 30) (n0 := 30) rfl rfl rfl rfl rfl h2 ?_
  refine w_aload_n (q := 135) rfl rfl rfl ?_
  refine w_gfr (q := 138) rfl rfl rfl rfl (j := 41) rfl ?_
  refine w_iconst (q := 139) rfl rfl ?_
  refine w_aload_n (q := 140) rfl rfl rfl ?_
  refine w_gfr (q := 143) rfl rfl rfl rfl (j := 27) rfl ?_
  refine w_iconst (q := 144) rfl rfl ?_
  refine w_aload_n (q := 145) rfl rfl rfl ?_
  refine w_gfi (q := 148) (k' := 14) (v := I 34 14) rfl rfl rfl rfl rfl rfl rfl ?_
  refine w_copy (q := 151) rfl rfl (n1 := 30) (n0 := 30) rfl rfl rfl rfl rfl h2 ?_
  refine w_aload_n (q := 152) rfl rfl rfl ?_
  refine w_gfr (q := 155) rfl rfl rfl rfl (j := 42) rfl ?_
  refine w_iconst (q := 156) rfl rfl ?_
  refine w_aload_n (q := 157) rfl rfl rfl ?_
  refine w_gfr (q := 160) rfl rfl rfl rfl (j := 28) rfl ?_
  refine w_iconst (q := 161) rfl rfl ?_
  refine w_aload_n (q := 162) rfl rfl rfl ?_
  refine w_gfi (q := 165) (k' := 14) (v := I 34 14) rfl rfl rfl rfl rfl rfl rfl ?_
  refine w_copy (q := 168) rfl rfl (n1 := 30) (n0 := 30) rfl rfl rfl rfl rfl h2 ?_
  refine w_aload_n (q := 169) rfl rfl rfl ?_
  refine w_gfr (q := 172) rfl rfl rfl rfl (j := 43) rfl ?_
  refine w_iconst (q := 173) rfl rfl ?_
  refine w_aload_n (q := 174) rfl rfl rfl ?_
  refine w_gfr (q := 177) rfl rfl rfl rfl (j := 29) rfl ?_
  refine w_iconst (q := 178) rfl rfl ?_
  refine w_aload_n (q := 179) rfl rfl rfl ?_
  refine w_gfi (q := 182) (k' := 14) (v := I 34 14) rfl rfl rfl rfl rfl rfl rfl ?_
  refine w_copy (q := 185) rfl rfl (n1 := 30) (n0 := 30) rfl rfl rfl rfl rfl h2 ?_
  refine w_aload_n (q := 186) rfl rfl rfl ?_
  refine w_gfr (q := 189) rfl rfl rfl rfl (j := 44) rfl ?_
  refine w_iconst (q := 190) rfl rfl ?_
  refine w_aload_n (q := 191) rfl rfl rfl ?_
  refine w_gfr (q := 194) rfl rfl rfl rfl (j := 30) rfl ?_
  refine w_iconst (q := 195) rfl rfl ?_
  refine w_bipush (q := 197) rfl rfl rfl ?_
  refine w_copy (q := 200) rfl rfl (n1 := 24) (n0 := 24) rfl rfl rfl rfl rfl (by decide) ?_
  refine w_aload_n (q := 201) rfl rfl rfl ?_
  refine w_gfr (q := 204) rfl rfl rfl rfl (j := 45) rfl ?_
  refine w_iconst (q := 205) rfl rfl ?_
  refine w_aload_n (q := 206) rfl rfl rfl ?_
  refine w_gfr (q := 209) rfl rfl rfl rfl (j := 31) rfl ?_
  refine w_iconst (q := 210) rfl rfl ?_
  refine w_aload_n (q := 211) rfl rfl rfl ?_
  refine w_gfi (q := 214) (k' := 16) (v := I 34 16) rfl rfl rfl rfl rfl rfl rfl ?_
  obtain ⟨h3, k⟩ := k
  refine w_copy (q := 217) rfl rfl (n1 := 40) (n0 := 40) rfl rfl rfl rfl rfl h3 ?_
  refine w_aload_n (q := 218) rfl rfl rfl ?_
  refine w_gfr (q := 221) rfl rfl rfl rfl (j := 46) rfl ?_
  refine w_iconst (q := 222) rfl rfl ?_
  refine w_aload_n (q := 223) rfl rfl rfl ?_
  refine w_gfr (q := 226) rfl rfl rfl rfl (j := 32) rfl ?_
  refine w_iconst (q := 227) rfl rfl ?_
  refine w_aload_n (q := 228) rfl rfl rfl ?_
  refine w_gfi (q := 231) (k' := 16) (v := I 34 16) rfl rfl rfl rfl rfl rfl rfl ?_
  refine w_copy (q := 234) rfl rfl (n1 := 40) (n0 := 40) rfl rfl rfl rfl rfl h3 ?_
  refine w_aload_n (q := 235) rfl rfl rfl ?_
  refine w_gfr (q := 238) rfl rfl rfl rfl (j := 47) rfl ?_
  refine w_iconst (q := 239) rfl rfl ?_
  refine w_aload_n (q := 240) rfl rfl rfl ?_
  refine w_gfr (q := 243) rfl rfl rfl rfl (j := 33) rfl ?_
  refine w_iconst (q := 244) rfl rfl ?_
  refine w_aload_n (q := 245) rfl rfl rfl ?_
  refine w_gfi (q := 248) (k' := 16) (v := I 34 16) rfl rfl rfl rfl rfl rfl rfl ?_
  refine w_copy (q := 251) rfl rfl (n1 := 40) (n0 := 40) rfl rfl rfl rfl rfl h3 ?_
  exact w_vret rfl k
theorem e4_34_20 {xs : Nat → Int32} {xl : Nat} {I J : w_I} {b : Bool} {Q : Option Value → w_I → w_I → Bool → Prop} (t : w_T xs xl 4 0 [some (.ref 34), some (.ref 20)] [] [] I J b Q) : w_C xs xl 4 [.ref 34, .ref 20] I J b Q := w_en rfl t
theorem b4_0_34_20 {xs : Nat → Int32} {xl : Nat} {I J : w_I} {b : Bool} {Q : Option Value → w_I → w_I → Bool → Prop} (k : (((0 : Int) ≤ 0 ∧ (0 : Int) ≤ 0 ∧ (0 : Int) ≤ I 20 13 ∧ 0 + I 20 13 ≤ (60 : Int) ∧ 0 + I 20 13 ≤ (60 : Int)) ∧ (((0 : Int) ≤ 0 ∧ (0 : Int) ≤ 0 ∧ (0 : Int) ≤ I 20 14 ∧ 0 + I 20 14 ≤ (30 : Int) ∧ 0 + I 20 14 ≤ (30 : Int)) ∧ (((0 : Int) ≤ 0 ∧ (0 : Int) ≤ 0 ∧ (0 : Int) ≤ I 20 16 ∧ 0 + I 20 16 ≤ (40 : Int) ∧ 0 + I 20 16 ≤ (40 : Int)) ∧ Q none (w_cp (w_cp (w_cp (w_cp (w_cp (w_cp (w_cp (w_cp (w_cp (w_cp (w_cp (w_cp (w_cp (w_U (w_U (w_U (w_U I 34 13 (I 20 13)) 34 14 (I 20 14)) 34 15 (I 20 15)) 34 16 (I 20 16)) 35 21 0 0 (I 20 13)) 36 22 0 0 (I 20 13)) 37 23 0 0 (I 20 13)) 38 24 0 0 (I 20 13)) 39 25 0 0 (I 20 13)) 40 26 0 0 (I 20 14)) 41 27 0 0 (I 20 14)) 42 28 0 0 (I 20 14)) 43 29 0 0 (I 20 14)) 44 30 0 0 24) 45 31 0 0 (I 20 16)) 46 32 0 0 (I 20 16)) 47 33 0 0 (I 20 16)) J b)))) : w_T xs xl 4 0 [some (.ref 34), some (.ref 20)] [] [] I J b Q := by
  refine w_aload_n (q := 1) rfl rfl rfl ?_
  refine w_aload_n (q := 2) rfl rfl rfl ?_
  refine w_gfi (q := 5) (k' := 13) (v := I 20 13) rfl rfl rfl rfl rfl rfl rfl ?_
  refine w_pfi (q := 8) (k' := 13) rfl rfl rfl rfl ?_
  refine w_aload_n (q := 9) rfl rfl rfl ?_
  refine w_aload_n (q := 10) rfl rfl rfl ?_
  refine w_gfi (q := 13) (k' := 14) (v := I 20 14) rfl rfl rfl rfl rfl rfl rfl ?_
  refine w_pfi (q := 16) (k' := 14) rfl rfl rfl rfl ?_
  refine w_aload_n (q := 17) rfl rfl rfl ?_
  refine w_aload_n (q := 18) rfl rfl rfl ?_
  refine w_gfi (q := 21) (k' := 15) (v := I 20 15) rfl rfl rfl rfl rfl rfl rfl ?_
  refine w_pfi (q := 24) (k' := 15) rfl rfl rfl rfl ?_
  refine w_aload_n (q := 25) rfl rfl rfl ?_
  refine w_aload_n (q := 26) rfl rfl rfl ?_
  refine w_gfi (q := 29) (k' := 16) (v := I 20 16) rfl rfl rfl rfl rfl rfl rfl ?_
  refine w_pfi (q := 32) (k' := 16) rfl rfl rfl rfl ?_
  refine w_aload_n (q := 33) rfl rfl rfl ?_
  refine w_gfr (q := 36) rfl rfl rfl rfl (j := 21) rfl ?_
  refine w_iconst (q := 37) rfl rfl ?_
  refine w_aload_n (q := 38) rfl rfl rfl ?_
  refine w_gfr (q := 41) rfl rfl rfl rfl (j := 35) rfl ?_
  refine w_iconst (q := 42) rfl rfl ?_
  refine w_aload_n (q := 43) rfl rfl rfl ?_
  refine w_gfi (q := 46) (k' := 13) (v := I 20 13) rfl rfl rfl rfl rfl rfl rfl ?_
  obtain ⟨h1, k⟩ := k
  refine w_copy (q := 49) rfl rfl (n1 := 60) (n0 := 60) rfl rfl rfl rfl rfl h1 ?_
  refine w_aload_n (q := 50) rfl rfl rfl ?_
  refine w_gfr (q := 53) rfl rfl rfl rfl (j := 22) rfl ?_
  refine w_iconst (q := 54) rfl rfl ?_
  refine w_aload_n (q := 55) rfl rfl rfl ?_
  refine w_gfr (q := 58) rfl rfl rfl rfl (j := 36) rfl ?_
  refine w_iconst (q := 59) rfl rfl ?_
  refine w_aload_n (q := 60) rfl rfl rfl ?_
  refine w_gfi (q := 63) (k' := 13) (v := I 20 13) rfl rfl rfl rfl rfl rfl rfl ?_
  refine w_copy (q := 66) rfl rfl (n1 := 60) (n0 := 60) rfl rfl rfl rfl rfl h1 ?_
  refine w_aload_n (q := 67) rfl rfl rfl ?_
  refine w_gfr (q := 70) rfl rfl rfl rfl (j := 23) rfl ?_
  refine w_iconst (q := 71) rfl rfl ?_
  refine w_aload_n (q := 72) rfl rfl rfl ?_
  refine w_gfr (q := 75) rfl rfl rfl rfl (j := 37) rfl ?_
  refine w_iconst (q := 76) rfl rfl ?_
  refine w_aload_n (q := 77) rfl rfl rfl ?_
  refine w_gfi (q := 80) (k' := 13) (v := I 20 13) rfl rfl rfl rfl rfl rfl rfl ?_
  refine w_copy (q := 83) rfl rfl (n1 := 60) (n0 := 60) rfl rfl rfl rfl rfl h1 ?_
  refine w_aload_n (q := 84) rfl rfl rfl ?_
  refine w_gfr (q := 87) rfl rfl rfl rfl (j := 24) rfl ?_
  refine w_iconst (q := 88) rfl rfl ?_
  refine w_aload_n (q := 89) rfl rfl rfl ?_
  refine w_gfr (q := 92) rfl rfl rfl rfl (j := 38) rfl ?_
  refine w_iconst (q := 93) rfl rfl ?_
  refine w_aload_n (q := 94) rfl rfl rfl ?_
  refine w_gfi (q := 97) (k' := 13) (v := I 20 13) rfl rfl rfl rfl rfl rfl rfl ?_
  refine w_copy (q := 100) rfl rfl (n1 := 60) (n0 := 60) rfl rfl rfl rfl rfl h1 ?_
  refine w_aload_n (q := 101) rfl rfl rfl ?_
  refine w_gfr (q := 104) rfl rfl rfl rfl (j := 25) rfl ?_
  refine w_iconst (q := 105) rfl rfl ?_
  refine w_aload_n (q := 106) rfl rfl rfl ?_
  refine w_gfr (q := 109) rfl rfl rfl rfl (j := 39) rfl ?_
  refine w_iconst (q := 110) rfl rfl ?_
  refine w_aload_n (q := 111) rfl rfl rfl ?_
  refine w_gfi (q := 114) (k' := 13) (v := I 20 13) rfl rfl rfl rfl rfl rfl rfl ?_
  refine w_copy (q := 117) rfl rfl (n1 := 60) (n0 := 60) rfl rfl rfl rfl rfl h1 ?_
  refine w_aload_n (q := 118) rfl rfl rfl ?_
  refine w_gfr (q := 121) rfl rfl rfl rfl (j := 26) rfl ?_
  refine w_iconst (q := 122) rfl rfl ?_
  refine w_aload_n (q := 123) rfl rfl rfl ?_
  refine w_gfr (q := 126) rfl rfl rfl rfl (j := 40) rfl ?_
  refine w_iconst (q := 127) rfl rfl ?_
  refine w_aload_n (q := 128) rfl rfl rfl ?_
  refine w_gfi (q := 131) (k' := 14) (v := I 20 14) rfl rfl rfl rfl rfl rfl rfl ?_
  obtain ⟨h2, k⟩ := k
  refine w_copy (q := 134) rfl rfl (n1 := 30) (n0 := 30) rfl rfl rfl rfl rfl h2 ?_
  refine w_aload_n (q := 135) rfl rfl rfl ?_
  refine w_gfr (q := 138) rfl rfl rfl rfl (j := 27) rfl ?_
  refine w_iconst (q := 139) rfl rfl ?_
  refine w_aload_n (q := 140) rfl rfl rfl ?_
  refine w_gfr (q := 143) rfl rfl rfl rfl (j := 41) rfl ?_
  refine w_iconst (q := 144) rfl rfl ?_
  refine w_aload_n (q := 145) rfl rfl rfl ?_
  refine w_gfi (q := 148) (k' := 14) (v := I 20 14) rfl rfl rfl rfl rfl rfl rfl ?_
  refine w_copy (q := 151) rfl rfl (n1 := 30) (n0 := 30) rfl rfl rfl rfl rfl h2 ?_
  refine w_aload_n (q := 152) rfl rfl rfl ?_
  refine w_gfr (q := 155) rfl rfl rfl rfl (j := 28) rfl ?_
  refine w_iconst (q := 156) rfl rfl ?_
  refine w_aload_n (q := 157) rfl rfl rfl ?_
  refine w_gfr (q := 160) rfl rfl rfl rfl (j := 42) rfl ?_
  refine w_iconst (q := 161) rfl rfl ?_
  refine w_aload_n (q := 162) rfl rfl rfl ?_
  refine w_gfi (q := 165) (k' := 14) (v := I 20 14) rfl rfl rfl rfl rfl rfl rfl ?_
  refine w_copy (q := 168) rfl rfl (n1 := 30) (n0 := 30) rfl rfl rfl rfl rfl h2 ?_
  refine w_aload_n (q := 169) rfl rfl rfl ?_
  refine w_gfr (q := 172) rfl rfl rfl rfl (j := 29) rfl ?_
  refine w_iconst (q := 173) rfl rfl ?_
  refine w_aload_n (q := 174) rfl rfl rfl ?_
  refine w_gfr (q := 177) rfl rfl rfl rfl (j := 43) rfl ?_
  refine w_iconst (q := 178) rfl rfl ?_
  refine w_aload_n (q := 179) rfl rfl rfl ?_
  refine w_gfi (q := 182) (k' := 14) (v := I 20 14) rfl rfl rfl rfl rfl rfl rfl ?_
  refine w_copy (q := 185) rfl rfl (n1 := 30) (n0 := 30) rfl rfl rfl rfl rfl h2 ?_
  refine w_aload_n (q := 186) rfl rfl rfl ?_
  refine w_gfr (q := 189) rfl rfl rfl rfl (j := 30) rfl ?_
  refine w_iconst (q := 190) rfl rfl ?_
  refine w_aload_n (q := 191) rfl rfl rfl ?_
  refine w_gfr (q := 194) rfl rfl rfl rfl (j := 44) rfl ?_
  refine w_iconst (q := 195) rfl rfl ?_
  refine w_bipush (q := 197) rfl rfl rfl ?_
  refine w_copy (q := 200) rfl rfl (n1 := 24) (n0 := 24) rfl rfl rfl rfl rfl (by decide) ?_
  refine w_aload_n (q := 201) rfl rfl rfl ?_
  refine w_gfr (q := 204) rfl rfl rfl rfl (j := 31) rfl ?_
  refine w_iconst (q := 205) rfl rfl ?_
  refine w_aload_n (q := 206) rfl rfl rfl ?_
  refine w_gfr (q := 209) rfl rfl rfl rfl (j := 45) rfl ?_
  refine w_iconst (q := 210) rfl rfl ?_
  refine w_aload_n (q := 211) rfl rfl rfl ?_
  refine w_gfi (q := 214) (k' := 16) (v := I 20 16) rfl rfl rfl rfl rfl rfl rfl ?_
  obtain ⟨h3, k⟩ := k
  refine w_copy (q := 217) rfl rfl (n1 := 40) (n0 := 40) rfl rfl rfl rfl rfl h3 ?_
  refine w_aload_n (q := 218) rfl rfl rfl ?_
  refine w_gfr (q := 221) rfl rfl rfl rfl (j := 32) rfl ?_
  refine w_iconst (q := 222) rfl rfl ?_
  refine w_aload_n (q := 223) rfl rfl rfl ?_
  refine w_gfr (q := 226) rfl rfl rfl rfl (j := 46) rfl ?_
  refine w_iconst (q := 227) rfl rfl ?_
  refine w_aload_n (q := 228) rfl rfl rfl ?_
  refine w_gfi (q := 231) (k' := 16) (v := I 20 16) rfl rfl rfl rfl rfl rfl rfl ?_
  refine w_copy (q := 234) rfl rfl (n1 := 40) (n0 := 40) rfl rfl rfl rfl rfl h3 ?_
  refine w_aload_n (q := 235) rfl rfl rfl ?_
  refine w_gfr (q := 238) rfl rfl rfl rfl (j := 33) rfl ?_
  refine w_iconst (q := 239) rfl rfl ?_
  refine w_aload_n (q := 240) rfl rfl rfl ?_
  refine w_gfr (q := 243) rfl rfl rfl rfl (j := 47) rfl ?_
  refine w_iconst (q := 244) rfl rfl ?_
  refine w_aload_n (q := 245) rfl rfl rfl ?_
  refine w_gfi (q := 248) (k' := 16) (v := I 20 16) rfl rfl rfl rfl rfl rfl rfl ?_
  refine w_copy (q := 251) rfl rfl (n1 := 40) (n0 := 40) rfl rfl rfl rfl rfl h3 ?_
  exact w_vret rfl k
theorem e4_50_20 {xs : Nat → Int32} {xl : Nat} {I J : w_I} {b : Bool} {Q : Option Value → w_I → w_I → Bool → Prop} (t : w_T xs xl 4 0 [some (.ref 50), some (.ref 20)] [] [] I J b Q) : w_C xs xl 4 [.ref 50, .ref 20] I J b Q := w_en rfl t
theorem b4_0_50_20 {xs : Nat → Int32} {xl : Nat} {I J : w_I} {b : Bool} {Q : Option Value → w_I → w_I → Bool → Prop} (k : (((0 : Int) ≤ 0 ∧ (0 : Int) ≤ 0 ∧ (0 : Int) ≤ I 20 13 ∧ 0 + I 20 13 ≤ (60 : Int) ∧ 0 + I 20 13 ≤ (60 : Int)) ∧ (((0 : Int) ≤ 0 ∧ (0 : Int) ≤ 0 ∧ (0 : Int) ≤ I 20 14 ∧ 0 + I 20 14 ≤ (30 : Int) ∧ 0 + I 20 14 ≤ (30 : Int)) ∧ (((0 : Int) ≤ 0 ∧ (0 : Int) ≤ 0 ∧ (0 : Int) ≤ I 20 16 ∧ 0 + I 20 16 ≤ (40 : Int) ∧ 0 + I 20 16 ≤ (40 : Int)) ∧ Q none (w_cp (w_cp (w_cp (w_cp (w_cp (w_cp (w_cp (w_cp (w_cp (w_cp (w_cp (w_cp (w_cp (w_U (w_U (w_U (w_U I 50 13 (I 20 13)) 50 14 (I 20 14)) 50 15 (I 20 15)) 50 16 (I 20 16)) 51 21 0 0 (I 20 13)) 52 22 0 0 (I 20 13)) 53 23 0 0 (I 20 13)) 54 24 0 0 (I 20 13)) 55 25 0 0 (I 20 13)) 56 26 0 0 (I 20 14)) 57 27 0 0 (I 20 14)) 58 28 0 0 (I 20 14)) 59 29 0 0 (I 20 14)) 60 30 0 0 24) 61 31 0 0 (I 20 16)) 62 32 0 0 (I 20 16)) 63 33 0 0 (I 20 16)) J b)))) : w_T xs xl 4 0 [some (.ref 50), some (.ref 20)] [] [] I J b Q := by
  refine w_aload_n (q := 1) rfl rfl rfl ?_
  refine w_aload_n (q := 2) rfl rfl rfl ?_
  refine w_gfi (q := 5) (k' := 13) (v := I 20 13) rfl rfl rfl rfl rfl rfl rfl ?_
  refine w_pfi (q := 8) (k' := 13) rfl rfl rfl rfl ?_
  refine w_aload_n (q := 9) rfl rfl rfl ?_
  refine w_aload_n (q := 10) rfl rfl rfl ?_
  refine w_gfi (q := 13) (k' := 14) (v := I 20 14) rfl rfl rfl rfl rfl rfl rfl ?_
  refine w_pfi (q := 16) (k' := 14) rfl rfl rfl rfl ?_
  refine w_aload_n (q := 17) rfl rfl rfl ?_
  refine w_aload_n (q := 18) rfl rfl rfl ?_
  refine w_gfi (q := 21) (k' := 15) (v := I 20 15) rfl rfl rfl rfl rfl rfl rfl ?_
  refine w_pfi (q := 24) (k' := 15) rfl rfl rfl rfl ?_
  refine w_aload_n (q := 25) rfl rfl rfl ?_
  refine w_aload_n (q := 26) rfl rfl rfl ?_
  refine w_gfi (q := 29) (k' := 16) (v := I 20 16) rfl rfl rfl rfl rfl rfl rfl ?_
  refine w_pfi (q := 32) (k' := 16) rfl rfl rfl rfl ?_
  refine w_aload_n (q := 33) rfl rfl rfl ?_
  refine w_gfr (q := 36) rfl rfl rfl rfl (j := 21) rfl ?_
  refine w_iconst (q := 37) rfl rfl ?_
  refine w_aload_n (q := 38) rfl rfl rfl ?_
  refine w_gfr (q := 41) rfl rfl rfl rfl (j := 51) rfl ?_
  refine w_iconst (q := 42) rfl rfl ?_
  refine w_aload_n (q := 43) rfl rfl rfl ?_
  refine w_gfi (q := 46) (k' := 13) (v := I 20 13) rfl rfl rfl rfl rfl rfl rfl ?_
  obtain ⟨h1, k⟩ := k
  refine w_copy (q := 49) rfl rfl (n1 := 60) (n0 := 60) rfl rfl rfl rfl rfl h1 ?_
  refine w_aload_n (q := 50) rfl rfl rfl ?_
  refine w_gfr (q := 53) rfl rfl rfl rfl (j := 22) rfl ?_
  refine w_iconst (q := 54) rfl rfl ?_
  refine w_aload_n (q := 55) rfl rfl rfl ?_
  refine w_gfr (q := 58) rfl rfl rfl rfl (j := 52) rfl ?_
  refine w_iconst (q := 59) rfl rfl ?_
  refine w_aload_n (q := 60) rfl rfl rfl ?_
  refine w_gfi (q := 63) (k' := 13) (v := I 20 13) rfl rfl rfl rfl rfl rfl rfl ?_
  refine w_copy (q := 66) rfl rfl (n1 := 60) (n0 := 60) rfl rfl rfl rfl rfl h1 ?_
  refine w_aload_n (q := 67) rfl rfl rfl ?_
  refine w_gfr (q := 70) rfl rfl rfl rfl (j := 23) rfl ?_
  refine w_iconst (q := 71) rfl rfl ?_
  refine w_aload_n (q := 72) rfl rfl rfl ?_
  refine w_gfr (q := 75) rfl rfl rfl rfl (j := 53) rfl ?_
  refine w_iconst (q := 76) rfl rfl ?_
  refine w_aload_n (q := 77) rfl rfl rfl ?_
  refine w_gfi (q := 80) (k' := 13) (v := I 20 13) rfl rfl rfl rfl rfl rfl rfl ?_
  refine w_copy (q := 83) rfl rfl (n1 := 60) (n0 := 60) rfl rfl rfl rfl rfl h1 ?_
  refine w_aload_n (q := 84) rfl rfl rfl ?_
  refine w_gfr (q := 87) rfl rfl rfl rfl (j := 24) rfl ?_
  refine w_iconst (q := 88) rfl rfl ?_
  refine w_aload_n (q := 89) rfl rfl rfl ?_
  refine w_gfr (q := 92) rfl rfl rfl rfl (j := 54) rfl ?_
  refine w_iconst (q := 93) rfl rfl ?_
  refine w_aload_n (q := 94) rfl rfl rfl ?_
  refine w_gfi (q := 97) (k' := 13) (v := I 20 13) rfl rfl rfl rfl rfl rfl rfl ?_
  refine w_copy (q := 100) rfl rfl (n1 := 60) (n0 := 60) rfl rfl rfl rfl rfl h1 ?_
  refine w_aload_n (q := 101) rfl rfl rfl ?_
  refine w_gfr (q := 104) rfl rfl rfl rfl (j := 25) rfl ?_
  refine w_iconst (q := 105) rfl rfl ?_
  refine w_aload_n (q := 106) rfl rfl rfl ?_
  refine w_gfr (q := 109) rfl rfl rfl rfl (j := 55) rfl ?_
  refine w_iconst (q := 110) rfl rfl ?_
  refine w_aload_n (q := 111) rfl rfl rfl ?_
  refine w_gfi (q := 114) (k' := 13) (v := I 20 13) rfl rfl rfl rfl rfl rfl rfl ?_
  refine w_copy (q := 117) rfl rfl (n1 := 60) (n0 := 60) rfl rfl rfl rfl rfl h1 ?_
  refine w_aload_n (q := 118) rfl rfl rfl ?_
  refine w_gfr (q := 121) rfl rfl rfl rfl (j := 26) rfl ?_
  refine w_iconst (q := 122) rfl rfl ?_
  refine w_aload_n (q := 123) rfl rfl rfl ?_
  refine w_gfr (q := 126) rfl rfl rfl rfl (j := 56) rfl ?_
  refine w_iconst (q := 127) rfl rfl ?_
  refine w_aload_n (q := 128) rfl rfl rfl ?_
  refine w_gfi (q := 131) (k' := 14) (v := I 20 14) rfl rfl rfl rfl rfl rfl rfl ?_
  obtain ⟨h2, k⟩ := k
  refine w_copy (q := 134) rfl rfl (n1 := 30) (n0 := 30) rfl rfl rfl rfl rfl h2 ?_
  refine w_aload_n (q := 135) rfl rfl rfl ?_
  refine w_gfr (q := 138) rfl rfl rfl rfl (j := 27) rfl ?_
  refine w_iconst (q := 139) rfl rfl ?_
  refine w_aload_n (q := 140) rfl rfl rfl ?_
  refine w_gfr (q := 143) rfl rfl rfl rfl (j := 57) rfl ?_
  refine w_iconst (q := 144) rfl rfl ?_
  refine w_aload_n (q := 145) rfl rfl rfl ?_
  refine w_gfi (q := 148) (k' := 14) (v := I 20 14) rfl rfl rfl rfl rfl rfl rfl ?_
  refine w_copy (q := 151) rfl rfl (n1 := 30) (n0 := 30) rfl rfl rfl rfl rfl h2 ?_
  refine w_aload_n (q := 152) rfl rfl rfl ?_
  refine w_gfr (q := 155) rfl rfl rfl rfl (j := 28) rfl ?_
  refine w_iconst (q := 156) rfl rfl ?_
  refine w_aload_n (q := 157) rfl rfl rfl ?_
  refine w_gfr (q := 160) rfl rfl rfl rfl (j := 58) rfl ?_
  refine w_iconst (q := 161) rfl rfl ?_
  refine w_aload_n (q := 162) rfl rfl rfl ?_
  refine w_gfi (q := 165) (k' := 14) (v := I 20 14) rfl rfl rfl rfl rfl rfl rfl ?_
  refine w_copy (q := 168) rfl rfl (n1 := 30) (n0 := 30) rfl rfl rfl rfl rfl h2 ?_
  refine w_aload_n (q := 169) rfl rfl rfl ?_
  refine w_gfr (q := 172) rfl rfl rfl rfl (j := 29) rfl ?_
  refine w_iconst (q := 173) rfl rfl ?_
  refine w_aload_n (q := 174) rfl rfl rfl ?_
  refine w_gfr (q := 177) rfl rfl rfl rfl (j := 59) rfl ?_
  refine w_iconst (q := 178) rfl rfl ?_
  refine w_aload_n (q := 179) rfl rfl rfl ?_
  refine w_gfi (q := 182) (k' := 14) (v := I 20 14) rfl rfl rfl rfl rfl rfl rfl ?_
  refine w_copy (q := 185) rfl rfl (n1 := 30) (n0 := 30) rfl rfl rfl rfl rfl h2 ?_
  refine w_aload_n (q := 186) rfl rfl rfl ?_
  refine w_gfr (q := 189) rfl rfl rfl rfl (j := 30) rfl ?_
  refine w_iconst (q := 190) rfl rfl ?_
  refine w_aload_n (q := 191) rfl rfl rfl ?_
  refine w_gfr (q := 194) rfl rfl rfl rfl (j := 60) rfl ?_
  refine w_iconst (q := 195) rfl rfl ?_
  refine w_bipush (q := 197) rfl rfl rfl ?_
  refine w_copy (q := 200) rfl rfl (n1 := 24) (n0 := 24) rfl rfl rfl rfl rfl (by decide) ?_
  refine w_aload_n (q := 201) rfl rfl rfl ?_
  refine w_gfr (q := 204) rfl rfl rfl rfl (j := 31) rfl ?_
  refine w_iconst (q := 205) rfl rfl ?_
  refine w_aload_n (q := 206) rfl rfl rfl ?_
  refine w_gfr (q := 209) rfl rfl rfl rfl (j := 61) rfl ?_
  refine w_iconst (q := 210) rfl rfl ?_
  refine w_aload_n (q := 211) rfl rfl rfl ?_
  refine w_gfi (q := 214) (k' := 16) (v := I 20 16) rfl rfl rfl rfl rfl rfl rfl ?_
  obtain ⟨h3, k⟩ := k
  refine w_copy (q := 217) rfl rfl (n1 := 40) (n0 := 40) rfl rfl rfl rfl rfl h3 ?_
  refine w_aload_n (q := 218) rfl rfl rfl ?_
  refine w_gfr (q := 221) rfl rfl rfl rfl (j := 32) rfl ?_
  refine w_iconst (q := 222) rfl rfl ?_
  refine w_aload_n (q := 223) rfl rfl rfl ?_
  refine w_gfr (q := 226) rfl rfl rfl rfl (j := 62) rfl ?_
  refine w_iconst (q := 227) rfl rfl ?_
  refine w_aload_n (q := 228) rfl rfl rfl ?_
  refine w_gfi (q := 231) (k' := 16) (v := I 20 16) rfl rfl rfl rfl rfl rfl rfl ?_
  refine w_copy (q := 234) rfl rfl (n1 := 40) (n0 := 40) rfl rfl rfl rfl rfl h3 ?_
  refine w_aload_n (q := 235) rfl rfl rfl ?_
  refine w_gfr (q := 238) rfl rfl rfl rfl (j := 33) rfl ?_
  refine w_iconst (q := 239) rfl rfl ?_
  refine w_aload_n (q := 240) rfl rfl rfl ?_
  refine w_gfr (q := 243) rfl rfl rfl rfl (j := 63) rfl ?_
  refine w_iconst (q := 244) rfl rfl ?_
  refine w_aload_n (q := 245) rfl rfl rfl ?_
  refine w_gfi (q := 248) (k' := 16) (v := I 20 16) rfl rfl rfl rfl rfl rfl rfl ?_
  refine w_copy (q := 251) rfl rfl (n1 := 40) (n0 := 40) rfl rfl rfl rfl rfl h3 ?_
  exact w_vret rfl k
theorem e4_64_20 {xs : Nat → Int32} {xl : Nat} {I J : w_I} {b : Bool} {Q : Option Value → w_I → w_I → Bool → Prop} (t : w_T xs xl 4 0 [some (.ref 64), some (.ref 20)] [] [] I J b Q) : w_C xs xl 4 [.ref 64, .ref 20] I J b Q := w_en rfl t
theorem b4_0_64_20 {xs : Nat → Int32} {xl : Nat} {I J : w_I} {b : Bool} {Q : Option Value → w_I → w_I → Bool → Prop} (k : (((0 : Int) ≤ 0 ∧ (0 : Int) ≤ 0 ∧ (0 : Int) ≤ I 20 13 ∧ 0 + I 20 13 ≤ (60 : Int) ∧ 0 + I 20 13 ≤ (60 : Int)) ∧ (((0 : Int) ≤ 0 ∧ (0 : Int) ≤ 0 ∧ (0 : Int) ≤ I 20 14 ∧ 0 + I 20 14 ≤ (30 : Int) ∧ 0 + I 20 14 ≤ (30 : Int)) ∧ (((0 : Int) ≤ 0 ∧ (0 : Int) ≤ 0 ∧ (0 : Int) ≤ I 20 16 ∧ 0 + I 20 16 ≤ (40 : Int) ∧ 0 + I 20 16 ≤ (40 : Int)) ∧ Q none (w_cp (w_cp (w_cp (w_cp (w_cp (w_cp (w_cp (w_cp (w_cp (w_cp (w_cp (w_cp (w_cp (w_U (w_U (w_U (w_U I 64 13 (I 20 13)) 64 14 (I 20 14)) 64 15 (I 20 15)) 64 16 (I 20 16)) 65 21 0 0 (I 20 13)) 66 22 0 0 (I 20 13)) 67 23 0 0 (I 20 13)) 68 24 0 0 (I 20 13)) 69 25 0 0 (I 20 13)) 70 26 0 0 (I 20 14)) 71 27 0 0 (I 20 14)) 72 28 0 0 (I 20 14)) 73 29 0 0 (I 20 14)) 74 30 0 0 24) 75 31 0 0 (I 20 16)) 76 32 0 0 (I 20 16)) 77 33 0 0 (I 20 16)) J b)))) : w_T xs xl 4 0 [some (.ref 64), some (.ref 20)] [] [] I J b Q := by
  refine w_aload_n (q := 1) rfl rfl rfl ?_
  refine w_aload_n (q := 2) rfl rfl rfl ?_
  refine w_gfi (q := 5) (k' := 13) (v := I 20 13) rfl rfl rfl rfl rfl rfl rfl ?_
  refine w_pfi (q := 8) (k' := 13) rfl rfl rfl rfl ?_
  refine w_aload_n (q := 9) rfl rfl rfl ?_
  refine w_aload_n (q := 10) rfl rfl rfl ?_
  refine w_gfi (q := 13) (k' := 14) (v := I 20 14) rfl rfl rfl rfl rfl rfl rfl ?_
  refine w_pfi (q := 16) (k' := 14) rfl rfl rfl rfl ?_
  refine w_aload_n (q := 17) rfl rfl rfl ?_
  refine w_aload_n (q := 18) rfl rfl rfl ?_
  refine w_gfi (q := 21) (k' := 15) (v := I 20 15) rfl rfl rfl rfl rfl rfl rfl ?_
  refine w_pfi (q := 24) (k' := 15) rfl rfl rfl rfl ?_
  refine w_aload_n (q := 25) rfl rfl rfl ?_
  refine w_aload_n (q := 26) rfl rfl rfl ?_
  refine w_gfi (q := 29) (k' := 16) (v := I 20 16) rfl rfl rfl rfl rfl rfl rfl ?_
  refine w_pfi (q := 32) (k' := 16) rfl rfl rfl rfl ?_
  refine w_aload_n (q := 33) rfl rfl rfl ?_
  refine w_gfr (q := 36) rfl rfl rfl rfl (j := 21) rfl ?_
  refine w_iconst (q := 37) rfl rfl ?_
  refine w_aload_n (q := 38) rfl rfl rfl ?_
  refine w_gfr (q := 41) rfl rfl rfl rfl (j := 65) rfl ?_
  refine w_iconst (q := 42) rfl rfl ?_
  refine w_aload_n (q := 43) rfl rfl rfl ?_
  refine w_gfi (q := 46) (k' := 13) (v := I 20 13) rfl rfl rfl rfl rfl rfl rfl ?_
  obtain ⟨h1, k⟩ := k
  refine w_copy (q := 49) rfl rfl (n1 := 60) (n0 := 60) rfl rfl rfl rfl rfl h1 ?_
  refine w_aload_n (q := 50) rfl rfl rfl ?_
  refine w_gfr (q := 53) rfl rfl rfl rfl (j := 22) rfl ?_
  refine w_iconst (q := 54) rfl rfl ?_
  refine w_aload_n (q := 55) rfl rfl rfl ?_
  refine w_gfr (q := 58) rfl rfl rfl rfl (j := 66) rfl ?_
  refine w_iconst (q := 59) rfl rfl ?_
  refine w_aload_n (q := 60) rfl rfl rfl ?_
  refine w_gfi (q := 63) (k' := 13) (v := I 20 13) rfl rfl rfl rfl rfl rfl rfl ?_
  refine w_copy (q := 66) rfl rfl (n1 := 60) (n0 := 60) rfl rfl rfl rfl rfl h1 ?_
  refine w_aload_n (q := 67) rfl rfl rfl ?_
  refine w_gfr (q := 70) rfl rfl rfl rfl (j := 23) rfl ?_
  refine w_iconst (q := 71) rfl rfl ?_
  refine w_aload_n (q := 72) rfl rfl rfl ?_
  refine w_gfr (q := 75) rfl rfl rfl rfl (j := 67) rfl ?_
  refine w_iconst (q := 76) rfl rfl ?_
  refine w_aload_n (q := 77) rfl rfl rfl ?_
  refine w_gfi (q := 80) (k' := 13) (v := I 20 13) rfl rfl rfl rfl rfl rfl rfl ?_
  refine w_copy (q := 83) rfl rfl (n1 := 60) (n0 := 60) rfl rfl rfl rfl rfl h1 ?_
  refine w_aload_n (q := 84) rfl rfl rfl ?_
  refine w_gfr (q := 87) rfl rfl rfl rfl (j := 24) rfl ?_
  refine w_iconst (q := 88) rfl rfl ?_
  refine w_aload_n (q := 89) rfl rfl rfl ?_
  refine w_gfr (q := 92) rfl rfl rfl rfl (j := 68) rfl ?_
  refine w_iconst (q := 93) rfl rfl ?_
  refine w_aload_n (q := 94) rfl rfl rfl ?_
  refine w_gfi (q := 97) (k' := 13) (v := I 20 13) rfl rfl rfl rfl rfl rfl rfl ?_
  refine w_copy (q := 100) rfl rfl (n1 := 60) (n0 := 60) rfl rfl rfl rfl rfl h1 ?_
  refine w_aload_n (q := 101) rfl rfl rfl ?_
  refine w_gfr (q := 104) rfl rfl rfl rfl (j := 25) rfl ?_
  refine w_iconst (q := 105) rfl rfl ?_
  refine w_aload_n (q := 106) rfl rfl rfl ?_
  refine w_gfr (q := 109) rfl rfl rfl rfl (j := 69) rfl ?_
  refine w_iconst (q := 110) rfl rfl ?_
  refine w_aload_n (q := 111) rfl rfl rfl ?_
  refine w_gfi (q := 114) (k' := 13) (v := I 20 13) rfl rfl rfl rfl rfl rfl rfl ?_
  refine w_copy (q := 117) rfl rfl (n1 := 60) (n0 := 60) rfl rfl rfl rfl rfl h1 ?_
  refine w_aload_n (q := 118) rfl rfl rfl ?_
  refine w_gfr (q := 121) rfl rfl rfl rfl (j := 26) rfl ?_
  refine w_iconst (q := 122) rfl rfl ?_
  refine w_aload_n (q := 123) rfl rfl rfl ?_
  refine w_gfr (q := 126) rfl rfl rfl rfl (j := 70) rfl ?_
  refine w_iconst (q := 127) rfl rfl ?_
  refine w_aload_n (q := 128) rfl rfl rfl ?_
  refine w_gfi (q := 131) (k' := 14) (v := I 20 14) rfl rfl rfl rfl rfl rfl rfl ?_
  obtain ⟨h2, k⟩ := k
  refine w_copy (q := 134) rfl rfl (n1 := 30) (n0 := 30) rfl rfl rfl rfl rfl h2 ?_
  refine w_aload_n (q := 135) rfl rfl rfl ?_
  refine w_gfr (q := 138) rfl rfl rfl rfl (j := 27) rfl ?_
  refine w_iconst (q := 139) rfl rfl ?_
  refine w_aload_n (q := 140) rfl rfl rfl ?_
  refine w_gfr (q := 143) rfl rfl rfl rfl (j := 71) rfl ?_
  refine w_iconst (q := 144) rfl rfl ?_
  refine w_aload_n (q := 145) rfl rfl rfl ?_
  refine w_gfi (q := 148) (k' := 14) (v := I 20 14) rfl rfl rfl rfl rfl rfl rfl ?_
  refine w_copy (q := 151) rfl rfl (n1 := 30) (n0 := 30) rfl rfl rfl rfl rfl h2 ?_
  refine w_aload_n (q := 152) rfl rfl rfl ?_
  refine w_gfr (q := 155) rfl rfl rfl rfl (j := 28) rfl ?_
  refine w_iconst (q := 156) rfl rfl ?_
  refine w_aload_n (q := 157) rfl rfl rfl ?_
  refine w_gfr (q := 160) rfl rfl rfl rfl (j := 72) rfl ?_
  refine w_iconst (q := 161) rfl rfl ?_
  refine w_aload_n (q := 162) rfl rfl rfl ?_
  refine w_gfi (q := 165) (k' := 14) (v := I 20 14) rfl rfl rfl rfl rfl rfl rfl ?_
  refine w_copy (q := 168) rfl rfl (n1 := 30) (n0 := 30) rfl rfl rfl rfl rfl h2 ?_
  refine w_aload_n (q := 169) rfl rfl rfl ?_
  refine w_gfr (q := 172) rfl rfl rfl rfl (j := 29) rfl ?_
  refine w_iconst (q := 173) rfl rfl ?_
  refine w_aload_n (q := 174) rfl rfl rfl ?_
  refine w_gfr (q := 177) rfl rfl rfl rfl (j := 73) rfl ?_
  refine w_iconst (q := 178) rfl rfl ?_
  refine w_aload_n (q := 179) rfl rfl rfl ?_
  refine w_gfi (q := 182) (k' := 14) (v := I 20 14) rfl rfl rfl rfl rfl rfl rfl ?_
  refine w_copy (q := 185) rfl rfl (n1 := 30) (n0 := 30) rfl rfl rfl rfl rfl h2 ?_
  refine w_aload_n (q := 186) rfl rfl rfl ?_
  refine w_gfr (q := 189) rfl rfl rfl rfl (j := 30) rfl ?_
  refine w_iconst (q := 190) rfl rfl ?_
  refine w_aload_n (q := 191) rfl rfl rfl ?_
  refine w_gfr (q := 194) rfl rfl rfl rfl (j := 74) rfl ?_
  refine w_iconst (q := 195) rfl rfl ?_
  refine w_bipush (q := 197) rfl rfl rfl ?_
  refine w_copy (q := 200) rfl rfl (n1 := 24) (n0 := 24) rfl rfl rfl rfl rfl (by decide) ?_
  refine w_aload_n (q := 201) rfl rfl rfl ?_
  refine w_gfr (q := 204) rfl rfl rfl rfl (j := 31) rfl ?_
  refine w_iconst (q := 205) rfl rfl ?_
  refine w_aload_n (q := 206) rfl rfl rfl ?_
  refine w_gfr (q := 209) rfl rfl rfl rfl (j := 75) rfl ?_
  refine w_iconst (q := 210) rfl rfl ?_
  refine w_aload_n (q := 211) rfl rfl rfl ?_
  refine w_gfi (q := 214) (k' := 16) (v := I 20 16) rfl rfl rfl rfl rfl rfl rfl ?_
  obtain ⟨h3, k⟩ := k
  refine w_copy (q := 217) rfl rfl (n1 := 40) (n0 := 40) rfl rfl rfl rfl rfl h3 ?_
  refine w_aload_n (q := 218) rfl rfl rfl ?_
  refine w_gfr (q := 221) rfl rfl rfl rfl (j := 32) rfl ?_
  refine w_iconst (q := 222) rfl rfl ?_
  refine w_aload_n (q := 223) rfl rfl rfl ?_
  refine w_gfr (q := 226) rfl rfl rfl rfl (j := 76) rfl ?_
  refine w_iconst (q := 227) rfl rfl ?_
  refine w_aload_n (q := 228) rfl rfl rfl ?_
  refine w_gfi (q := 231) (k' := 16) (v := I 20 16) rfl rfl rfl rfl rfl rfl rfl ?_
  refine w_copy (q := 234) rfl rfl (n1 := 40) (n0 := 40) rfl rfl rfl rfl rfl h3 ?_
  refine w_aload_n (q := 235) rfl rfl rfl ?_
  refine w_gfr (q := 238) rfl rfl rfl rfl (j := 33) rfl ?_
  refine w_iconst (q := 239) rfl rfl ?_
  refine w_aload_n (q := 240) rfl rfl rfl ?_
  refine w_gfr (q := 243) rfl rfl rfl rfl (j := 77) rfl ?_
  refine w_iconst (q := 244) rfl rfl ?_
  refine w_aload_n (q := 245) rfl rfl rfl ?_
  refine w_gfi (q := 248) (k' := 16) (v := I 20 16) rfl rfl rfl rfl rfl rfl rfl ?_
  refine w_copy (q := 251) rfl rfl (n1 := 40) (n0 := 40) rfl rfl rfl rfl rfl h3 ?_
  exact w_vret rfl k
theorem e4_20_50 {xs : Nat → Int32} {xl : Nat} {I J : w_I} {b : Bool} {Q : Option Value → w_I → w_I → Bool → Prop} (t : w_T xs xl 4 0 [some (.ref 20), some (.ref 50)] [] [] I J b Q) : w_C xs xl 4 [.ref 20, .ref 50] I J b Q := w_en rfl t
theorem b4_0_20_50 {xs : Nat → Int32} {xl : Nat} {I J : w_I} {b : Bool} {Q : Option Value → w_I → w_I → Bool → Prop} (k : (((0 : Int) ≤ 0 ∧ (0 : Int) ≤ 0 ∧ (0 : Int) ≤ I 50 13 ∧ 0 + I 50 13 ≤ (60 : Int) ∧ 0 + I 50 13 ≤ (60 : Int)) ∧ (((0 : Int) ≤ 0 ∧ (0 : Int) ≤ 0 ∧ (0 : Int) ≤ I 50 14 ∧ 0 + I 50 14 ≤ (30 : Int) ∧ 0 + I 50 14 ≤ (30 : Int)) ∧ (((0 : Int) ≤ 0 ∧ (0 : Int) ≤ 0 ∧ (0 : Int) ≤ I 50 16 ∧ 0 + I 50 16 ≤ (40 : Int) ∧ 0 + I 50 16 ≤ (40 : Int)) ∧ Q none (w_cp (w_cp (w_cp (w_cp (w_cp (w_cp (w_cp (w_cp (w_cp (w_cp (w_cp (w_cp (w_cp (w_U (w_U (w_U (w_U I 20 13 (I 50 13)) 20 14 (I 50 14)) 20 15 (I 50 15)) 20 16 (I 50 16)) 21 51 0 0 (I 50 13)) 22 52 0 0 (I 50 13)) 23 53 0 0 (I 50 13)) 24 54 0 0 (I 50 13)) 25 55 0 0 (I 50 13)) 26 56 0 0 (I 50 14)) 27 57 0 0 (I 50 14)) 28 58 0 0 (I 50 14)) 29 59 0 0 (I 50 14)) 30 60 0 0 24) 31 61 0 0 (I 50 16)) 32 62 0 0 (I 50 16)) 33 63 0 0 (I 50 16)) J b)))) : w_T xs xl 4 0 [some (.ref 20), some (.ref 50)] [] [] I J b Q := by
  refine w_aload_n (q := 1) rfl rfl rfl ?_
  refine w_aload_n (q := 2) rfl rfl rfl ?_
  refine w_gfi (q := 5) (k' := 13) (v := I 50 13) rfl rfl rfl rfl rfl rfl rfl ?_
  refine w_pfi (q := 8) (k' := 13) rfl rfl rfl rfl ?_
  refine w_aload_n (q := 9) rfl rfl rfl ?_
  refine w_aload_n (q := 10) rfl rfl rfl ?_
  refine w_gfi (q := 13) (k' := 14) (v := I 50 14) rfl rfl rfl rfl rfl rfl rfl ?_
  refine w_pfi (q := 16) (k' := 14) rfl rfl rfl rfl ?_
  refine w_aload_n (q := 17) rfl rfl rfl ?_
  refine w_aload_n (q := 18) rfl rfl rfl ?_
  refine w_gfi (q := 21) (k' := 15) (v := I 50 15) rfl rfl rfl rfl rfl rfl rfl ?_
  refine w_pfi (q := 24) (k' := 15) rfl rfl rfl rfl ?_
  refine w_aload_n (q := 25) rfl rfl rfl ?_
  refine w_aload_n (q := 26) rfl rfl rfl ?_
  refine w_gfi (q := 29) (k' := 16) (v := I 50 16) rfl rfl rfl rfl rfl rfl rfl ?_
  refine w_pfi (q := 32) (k' := 16) rfl rfl rfl rfl ?_
  refine w_aload_n (q := 33) rfl rfl rfl ?_
  refine w_gfr (q := 36) rfl rfl rfl rfl (j := 51) rfl ?_
  refine w_iconst (q := 37) rfl rfl ?_
  refine w_aload_n (q := 38) rfl rfl rfl ?_
  refine w_gfr (q := 41) rfl rfl rfl rfl (j := 21) rfl ?_
  refine w_iconst (q := 42) rfl rfl ?_
  refine w_aload_n (q := 43) rfl rfl rfl ?_
  refine w_gfi (q := 46) (k' := 13) (v := I 50 13) rfl rfl rfl rfl rfl rfl rfl ?_
  obtain ⟨h1, k⟩ := k
  refine w_copy (q := 49) rfl rfl (n1 := 60) (n0 := 60) rfl rfl rfl rfl rfl h1 ?_
  refine w_aload_n (q := 50) rfl rfl rfl ?_
  refine w_gfr (q := 53) rfl rfl rfl rfl (j := 52) rfl ?_
  refine w_iconst (q := 54) rfl rfl ?_
  refine w_aload_n (q := 55) rfl rfl rfl ?_
  refine w_gfr (q := 58) rfl rfl rfl rfl (j := 22) rfl ?_
  refine w_iconst (q := 59) rfl rfl ?_
  refine w_aload_n (q := 60) rfl rfl rfl ?_
  refine w_gfi (q := 63) (k' := 13) (v := I 50 13) rfl rfl rfl rfl rfl rfl rfl ?_
  refine w_copy (q := 66) rfl rfl (n1 := 60) (n0 := 60) rfl rfl rfl rfl rfl h1 ?_
  refine w_aload_n (q := 67) rfl rfl rfl ?_
  refine w_gfr (q := 70) rfl rfl rfl rfl (j := 53) rfl ?_
  refine w_iconst (q := 71) rfl rfl ?_
  refine w_aload_n (q := 72) rfl rfl rfl ?_
  refine w_gfr (q := 75) rfl rfl rfl rfl (j := 23) rfl ?_
  refine w_iconst (q := 76) rfl rfl ?_
  refine w_aload_n (q := 77) rfl rfl rfl ?_
  refine w_gfi (q := 80) (k' := 13) (v := I 50 13) rfl rfl rfl rfl rfl rfl rfl ?_
  refine w_copy (q := 83) rfl rfl (n1 := 60) (n0 := 60) rfl rfl rfl rfl rfl h1 ?_
  refine w_aload_n (q := 84) rfl rfl rfl ?_
  refine w_gfr (q := 87) rfl rfl rfl rfl (j := 54) rfl ?_
  refine w_iconst (q := 88) rfl rfl ?_
  refine w_aload_n (q := 89) rfl rfl rfl ?_
  refine w_gfr (q := 92) rfl rfl rfl rfl (j := 24) rfl ?_
  refine w_iconst (q := 93) rfl rfl ?_
  refine w_aload_n (q := 94) rfl rfl rfl ?_
  refine w_gfi (q := 97) (k' := 13) (v := I 50 13) rfl rfl rfl rfl rfl rfl rfl ?_
  refine w_copy (q := 100) rfl rfl (n1 := 60) (n0 := 60) rfl rfl rfl rfl rfl h1 ?_
  refine w_aload_n (q := 101) rfl rfl rfl ?_
  refine w_gfr (q := 104) rfl rfl rfl rfl (j := 55) rfl ?_
  refine w_iconst (q := 105) rfl rfl ?_
  refine w_aload_n (q := 106) rfl rfl rfl ?_
  refine w_gfr (q := 109) rfl rfl rfl rfl (j := 25) rfl ?_
  refine w_iconst (q := 110) rfl rfl ?_
  refine w_aload_n (q := 111) rfl rfl rfl ?_
  refine w_gfi (q := 114) (k' := 13) (v := I 50 13) rfl rfl rfl rfl rfl rfl rfl ?_
  refine w_copy (q := 117) rfl rfl (n1 := 60) (n0 := 60) rfl rfl rfl rfl rfl h1 ?_
  refine w_aload_n (q := 118) rfl rfl rfl ?_
  refine w_gfr (q := 121) rfl rfl rfl rfl (j := 56) rfl ?_
  refine w_iconst (q := 122) rfl rfl ?_
  refine w_aload_n (q := 123) rfl rfl rfl ?_
  refine w_gfr (q := 126) rfl rfl rfl rfl (j := 26) rfl ?_
  refine w_iconst (q := 127) rfl rfl ?_
  refine w_aload_n (q := 128) rfl rfl rfl ?_
  refine w_gfi (q := 131) (k' := 14) (v := I 50 14) rfl rfl rfl rfl rfl rfl rfl ?_
  obtain ⟨h2, k⟩ := k
  refine w_copy (q := 134) rfl rfl (n1 := 30) (n0 := 30) rfl rfl rfl rfl rfl h2 ?_
  refine w_aload_n (q := 135) rfl rfl rfl ?_
  refine w_gfr (q := 138) rfl rfl rfl rfl (j := 57) rfl ?_
  refine w_iconst (q := 139) rfl rfl ?_
  refine w_aload_n (q := 140) rfl rfl rfl ?_
  refine w_gfr (q := 143) rfl rfl rfl rfl (j := 27) rfl ?_
  refine w_iconst (q := 144) rfl rfl ?_
  refine w_aload_n (q := 145) rfl rfl rfl ?_
  refine w_gfi (q := 148) (k' := 14) (v := I 50 14) rfl rfl rfl rfl rfl rfl rfl ?_
  refine w_copy (q := 151) rfl rfl (n1 := 30) (n0 := 30) rfl rfl rfl rfl rfl h2 ?_
  refine w_aload_n (q := 152) rfl rfl rfl ?_
  refine w_gfr (q := 155) rfl rfl rfl rfl (j := 58) rfl ?_
  refine w_iconst (q := 156) rfl rfl ?_
  refine w_aload_n (q := 157) rfl rfl rfl ?_
  refine w_gfr (q := 160) rfl rfl rfl rfl (j := 28) rfl ?_
  refine w_iconst (q := 161) rfl rfl ?_
  refine w_aload_n (q := 162) rfl rfl rfl ?_
  refine w_gfi (q := 165) (k' := 14) (v := I 50 14) rfl rfl rfl rfl rfl rfl rfl ?_
  refine w_copy (q := 168) rfl rfl (n1 := 30) (n0 := 30) rfl rfl rfl rfl rfl h2 ?_
  refine w_aload_n (q := 169) rfl rfl rfl ?_
  refine w_gfr (q := 172) rfl rfl rfl rfl (j := 59) rfl ?_
  refine w_iconst (q := 173) rfl rfl ?_
  refine w_aload_n (q := 174) rfl rfl rfl ?_
  refine w_gfr (q := 177) rfl rfl rfl rfl (j := 29) rfl ?_
  refine w_iconst (q := 178) rfl rfl ?_
  refine w_aload_n (q := 179) rfl rfl rfl ?_
  refine w_gfi (q := 182) (k' := 14) (v := I 50 14) rfl rfl rfl rfl rfl rfl rfl ?_
  refine w_copy (q := 185) rfl rfl (n1 := 30) (n0 := 30) rfl rfl rfl rfl rfl h2 ?_
  refine w_aload_n (q := 186) rfl rfl rfl ?_
  refine w_gfr (q := 189) rfl rfl rfl rfl (j := 60) rfl ?_
  refine w_iconst (q := 190) rfl rfl ?_
  refine w_aload_n (q := 191) rfl rfl rfl ?_
  refine w_gfr (q := 194) rfl rfl rfl rfl (j := 30) rfl ?_
  refine w_iconst (q := 195) rfl rfl ?_
  refine w_bipush (q := 197) rfl rfl rfl ?_
  refine w_copy (q := 200) rfl rfl (n1 := 24) (n0 := 24) rfl rfl rfl rfl rfl (by decide) ?_
  refine w_aload_n (q := 201) rfl rfl rfl ?_
  refine w_gfr (q := 204) rfl rfl rfl rfl (j := 61) rfl ?_
  refine w_iconst (q := 205) rfl rfl ?_
  refine w_aload_n (q := 206) rfl rfl rfl ?_
  refine w_gfr (q := 209) rfl rfl rfl rfl (j := 31) rfl ?_
  refine w_iconst (q := 210) rfl rfl ?_
  refine w_aload_n (q := 211) rfl rfl rfl ?_
  refine w_gfi (q := 214) (k' := 16) (v := I 50 16) rfl rfl rfl rfl rfl rfl rfl ?_
  obtain ⟨h3, k⟩ := k
  refine w_copy (q := 217) rfl rfl (n1 := 40) (n0 := 40) rfl rfl rfl rfl rfl h3 ?_
  refine w_aload_n (q := 218) rfl rfl rfl ?_
  refine w_gfr (q := 221) rfl rfl rfl rfl (j := 62) rfl ?_
  refine w_iconst (q := 222) rfl rfl ?_
  refine w_aload_n (q := 223) rfl rfl rfl ?_
  refine w_gfr (q := 226) rfl rfl rfl rfl (j := 32) rfl ?_
  refine w_iconst (q := 227) rfl rfl ?_
  refine w_aload_n (q := 228) rfl rfl rfl ?_
  refine w_gfi (q := 231) (k' := 16) (v := I 50 16) rfl rfl rfl rfl rfl rfl rfl ?_
  refine w_copy (q := 234) rfl rfl (n1 := 40) (n0 := 40) rfl rfl rfl rfl rfl h3 ?_
  refine w_aload_n (q := 235) rfl rfl rfl ?_
  refine w_gfr (q := 238) rfl rfl rfl rfl (j := 63) rfl ?_
  refine w_iconst (q := 239) rfl rfl ?_
  refine w_aload_n (q := 240) rfl rfl rfl ?_
  refine w_gfr (q := 243) rfl rfl rfl rfl (j := 33) rfl ?_
  refine w_iconst (q := 244) rfl rfl ?_
  refine w_aload_n (q := 245) rfl rfl rfl ?_
  refine w_gfi (q := 248) (k' := 16) (v := I 50 16) rfl rfl rfl rfl rfl rfl rfl ?_
  refine w_copy (q := 251) rfl rfl (n1 := 40) (n0 := 40) rfl rfl rfl rfl rfl h3 ?_
  exact w_vret rfl k
theorem e4_20_64 {xs : Nat → Int32} {xl : Nat} {I J : w_I} {b : Bool} {Q : Option Value → w_I → w_I → Bool → Prop} (t : w_T xs xl 4 0 [some (.ref 20), some (.ref 64)] [] [] I J b Q) : w_C xs xl 4 [.ref 20, .ref 64] I J b Q := w_en rfl t
theorem b4_0_20_64 {xs : Nat → Int32} {xl : Nat} {I J : w_I} {b : Bool} {Q : Option Value → w_I → w_I → Bool → Prop} (k : (((0 : Int) ≤ 0 ∧ (0 : Int) ≤ 0 ∧ (0 : Int) ≤ I 64 13 ∧ 0 + I 64 13 ≤ (60 : Int) ∧ 0 + I 64 13 ≤ (60 : Int)) ∧ (((0 : Int) ≤ 0 ∧ (0 : Int) ≤ 0 ∧ (0 : Int) ≤ I 64 14 ∧ 0 + I 64 14 ≤ (30 : Int) ∧ 0 + I 64 14 ≤ (30 : Int)) ∧ (((0 : Int) ≤ 0 ∧ (0 : Int) ≤ 0 ∧ (0 : Int) ≤ I 64 16 ∧ 0 + I 64 16 ≤ (40 : Int) ∧ 0 + I 64 16 ≤ (40 : Int)) ∧ Q none (w_cp (w_cp (w_cp (w_cp (w_cp (w_cp (w_cp (w_cp (w_cp (w_cp (w_cp (w_cp (w_cp (w_U (w_U (w_U (w_U I 20 13 (I 64 13)) 20 14 (I 64 14)) 20 15 (I 64 15)) 20 16 (I 64 16)) 21 65 0 0 (I 64 13)) 22 66 0 0 (I 64 13)) 23 67 0 0 (I 64 13)) 24 68 0 0 (I 64 13)) 25 69 0 0 (I 64 13)) 26 70 0 0 (I 64 14)) 27 71 0 0 (I 64 14)) 28 72 0 0 (I 64 14)) 29 73 0 0 (I 64 14)) 30 74 0 0 24) 31 75 0 0 (I 64 16)) 32 76 0 0 (I 64 16)) 33 77 0 0 (I 64 16)) J b)))) : w_T xs xl 4 0 [some (.ref 20), some (.ref 64)] [] [] I J b Q := by
  refine w_aload_n (q := 1) rfl rfl rfl ?_
  refine w_aload_n (q := 2) rfl rfl rfl ?_
  refine w_gfi (q := 5) (k' := 13) (v := I 64 13) rfl rfl rfl rfl rfl rfl rfl ?_
  refine w_pfi (q := 8) (k' := 13) rfl rfl rfl rfl ?_
  refine w_aload_n (q := 9) rfl rfl rfl ?_
  refine w_aload_n (q := 10) rfl rfl rfl ?_
  refine w_gfi (q := 13) (k' := 14) (v := I 64 14) rfl rfl rfl rfl rfl rfl rfl ?_
  refine w_pfi (q := 16) (k' := 14) rfl rfl rfl rfl ?_
  refine w_aload_n (q := 17) rfl rfl rfl ?_
  refine w_aload_n (q := 18) rfl rfl rfl ?_
  refine w_gfi (q := 21) (k' := 15) (v := I 64 15) rfl rfl rfl rfl rfl rfl rfl ?_
  refine w_pfi (q := 24) (k' := 15) rfl rfl rfl rfl ?_
  refine w_aload_n (q := 25) rfl rfl rfl ?_
  refine w_aload_n (q := 26) rfl rfl rfl ?_
  refine w_gfi (q := 29) (k' := 16) (v := I 64 16) rfl rfl rfl rfl rfl rfl rfl ?_
  refine w_pfi (q := 32) (k' := 16) rfl rfl rfl rfl ?_
  refine w_aload_n (q := 33) rfl rfl rfl ?_
  refine w_gfr (q := 36) rfl rfl rfl rfl (j := 65) rfl ?_
  refine w_iconst (q := 37) rfl rfl ?_
  refine w_aload_n (q := 38) rfl rfl rfl ?_
  refine w_gfr (q := 41) rfl rfl rfl rfl (j := 21) rfl ?_
  refine w_iconst (q := 42) rfl rfl ?_
  refine w_aload_n (q := 43) rfl rfl rfl ?_
  refine w_gfi (q := 46) (k' := 13) (v := I 64 13) rfl rfl rfl rfl rfl rfl rfl ?_
  obtain ⟨h1, k⟩ := k
  refine w_copy (q := 49) rfl rfl (n1 := 60) (n0 := 60) rfl rfl rfl rfl rfl h1 ?_
  refine w_aload_n (q := 50) rfl rfl rfl ?_
  refine w_gfr (q := 53) rfl rfl rfl rfl (j := 66) rfl ?_
  refine w_iconst (q := 54) rfl rfl ?_
  refine w_aload_n (q := 55) rfl rfl rfl ?_
  refine w_gfr (q := 58) rfl rfl rfl rfl (j := 22) rfl ?_
  refine w_iconst (q := 59) rfl rfl ?_
  refine w_aload_n (q := 60) rfl rfl rfl ?_
  refine w_gfi (q := 63) (k' := 13) (v := I 64 13) rfl rfl rfl rfl rfl rfl rfl ?_
  refine w_copy (q := 66) rfl rfl (n1 := 60) (n0 := 60) rfl rfl rfl rfl rfl h1 ?_
  refine w_aload_n (q := 67) rfl rfl rfl ?_
  refine w_gfr (q := 70) rfl rfl rfl rfl (j := 67) rfl ?_
  refine w_iconst (q := 71) rfl rfl ?_
  refine w_aload_n (q := 72) rfl rfl rfl ?_
  refine w_gfr (q := 75) rfl rfl rfl rfl (j := 23) rfl ?_
  refine w_iconst (q := 76) rfl rfl ?_
  refine w_aload_n (q := 77) rfl rfl rfl ?_
  refine w_gfi (q := 80) (k' := 13) (v := I 64 13) rfl rfl rfl rfl rfl rfl rfl ?_
  refine w_copy (q := 83) rfl rfl (n1 := 60) (n0 := 60) rfl rfl rfl rfl rfl h1 ?_
  refine w_aload_n (q := 84) rfl rfl rfl ?_
  refine w_gfr (q := 87) rfl rfl rfl rfl (j := 68) rfl ?_
  refine w_iconst (q := 88) rfl rfl ?_
  refine w_aload_n (q := 89) rfl rfl rfl ?_
  refine w_gfr (q := 92) rfl rfl rfl rfl (j := 24) rfl ?_
  refine w_iconst (q := 93) rfl rfl ?_
  refine w_aload_n (q := 94) rfl rfl rfl ?_
  refine w_gfi (q := 97) (k' := 13) (v := I 64 13) rfl rfl rfl rfl rfl rfl rfl ?_
  refine w_copy (q := 100) rfl rfl (n1 := 60) (n0 := 60) rfl rfl rfl rfl rfl h1 ?_
  refine w_aload_n (q := 101) rfl rfl rfl ?_
  refine w_gfr (q := 104) rfl rfl rfl rfl (j := 69) rfl ?_
  refine w_iconst (q := 105) rfl rfl ?_
  refine w_aload_n (q := 106) rfl rfl rfl ?_
  refine w_gfr (q := 109) rfl rfl rfl rfl (j := 25) rfl ?_
  refine w_iconst (q := 110) rfl rfl ?_
  refine w_aload_n (q := 111) rfl rfl rfl ?_
  refine w_gfi (q := 114) (k' := 13) (v := I 64 13) rfl rfl rfl rfl rfl rfl rfl ?_
  refine w_copy (q := 117) rfl rfl (n1 := 60) (n0 := 60) rfl rfl rfl rfl rfl h1 ?_
  refine w_aload_n (q := 118) rfl rfl rfl ?_
  refine w_gfr (q := 121) rfl rfl rfl rfl (j := 70) rfl ?_
  refine w_iconst (q := 122) rfl rfl ?_
  refine w_aload_n (q := 123) rfl rfl rfl ?_
  refine w_gfr (q := 126) rfl rfl rfl rfl (j := 26) rfl ?_
  refine w_iconst (q := 127) rfl rfl ?_
  refine w_aload_n (q := 128) rfl rfl rfl ?_
  refine w_gfi (q := 131) (k' := 14) (v := I 64 14) rfl rfl rfl rfl rfl rfl rfl ?_
  obtain ⟨h2, k⟩ := k
  refine w_copy (q := 134) rfl rfl (n1 := 30) (n0 := 30) rfl rfl rfl rfl rfl h2 ?_
  refine w_aload_n (q := 135) rfl rfl rfl ?_
  refine w_gfr (q := 138) rfl rfl rfl rfl (j := 71) rfl ?_
  refine w_iconst (q := 139) rfl rfl ?_
  refine w_aload_n (q := 140) rfl rfl rfl ?_
  refine w_gfr (q := 143) rfl rfl rfl rfl (j := 27) rfl ?_
  refine w_iconst (q := 144) rfl rfl ?_
  refine w_aload_n (q := 145) rfl rfl rfl ?_
  refine w_gfi (q := 148) (k' := 14) (v := I 64 14) rfl rfl rfl rfl rfl rfl rfl ?_
  refine w_copy (q := 151) rfl rfl (n1 := 30) (n0 := 30) rfl rfl rfl rfl rfl h2 ?_
  refine w_aload_n (q := 152) rfl rfl rfl ?_
  refine w_gfr (q := 155) rfl rfl rfl rfl (j := 72) rfl ?_
  refine w_iconst (q := 156) rfl rfl ?_
  refine w_aload_n (q := 157) rfl rfl rfl ?_
  refine w_gfr (q := 160) rfl rfl rfl rfl (j := 28) rfl ?_
  refine w_iconst (q := 161) rfl rfl ?_
  refine w_aload_n (q := 162) rfl rfl rfl ?_
  refine w_gfi (q := 165) (k' := 14) (v := I 64 14) rfl rfl rfl rfl rfl rfl rfl ?_
  refine w_copy (q := 168) rfl rfl (n1 := 30) (n0 := 30) rfl rfl rfl rfl rfl h2 ?_
  refine w_aload_n (q := 169) rfl rfl rfl ?_
  refine w_gfr (q := 172) rfl rfl rfl rfl (j := 73) rfl ?_
  refine w_iconst (q := 173) rfl rfl ?_
  refine w_aload_n (q := 174) rfl rfl rfl ?_
  refine w_gfr (q := 177) rfl rfl rfl rfl (j := 29) rfl ?_
  refine w_iconst (q := 178) rfl rfl ?_
  refine w_aload_n (q := 179) rfl rfl rfl ?_
  refine w_gfi (q := 182) (k' := 14) (v := I 64 14) rfl rfl rfl rfl rfl rfl rfl ?_
  refine w_copy (q := 185) rfl rfl (n1 := 30) (n0 := 30) rfl rfl rfl rfl rfl h2 ?_
  refine w_aload_n (q := 186) rfl rfl rfl ?_
  refine w_gfr (q := 189) rfl rfl rfl rfl (j := 74) rfl ?_
  refine w_iconst (q := 190) rfl rfl ?_
  refine w_aload_n (q := 191) rfl rfl rfl ?_
  refine w_gfr (q := 194) rfl rfl rfl rfl (j := 30) rfl ?_
  refine w_iconst (q := 195) rfl rfl ?_
  refine w_bipush (q := 197) rfl rfl rfl ?_
  refine w_copy (q := 200) rfl rfl (n1 := 24) (n0 := 24) rfl rfl rfl rfl rfl (by decide) ?_
  refine w_aload_n (q := 201) rfl rfl rfl ?_
  refine w_gfr (q := 204) rfl rfl rfl rfl (j := 75) rfl ?_
  refine w_iconst (q := 205) rfl rfl ?_
  refine w_aload_n (q := 206) rfl rfl rfl ?_
  refine w_gfr (q := 209) rfl rfl rfl rfl (j := 31) rfl ?_
  refine w_iconst (q := 210) rfl rfl ?_
  refine w_aload_n (q := 211) rfl rfl rfl ?_
  refine w_gfi (q := 214) (k' := 16) (v := I 64 16) rfl rfl rfl rfl rfl rfl rfl ?_
  obtain ⟨h3, k⟩ := k
  refine w_copy (q := 217) rfl rfl (n1 := 40) (n0 := 40) rfl rfl rfl rfl rfl h3 ?_
  refine w_aload_n (q := 218) rfl rfl rfl ?_
  refine w_gfr (q := 221) rfl rfl rfl rfl (j := 76) rfl ?_
  refine w_iconst (q := 222) rfl rfl ?_
  refine w_aload_n (q := 223) rfl rfl rfl ?_
  refine w_gfr (q := 226) rfl rfl rfl rfl (j := 32) rfl ?_
  refine w_iconst (q := 227) rfl rfl ?_
  refine w_aload_n (q := 228) rfl rfl rfl ?_
  refine w_gfi (q := 231) (k' := 16) (v := I 64 16) rfl rfl rfl rfl rfl rfl rfl ?_
  refine w_copy (q := 234) rfl rfl (n1 := 40) (n0 := 40) rfl rfl rfl rfl rfl h3 ?_
  refine w_aload_n (q := 235) rfl rfl rfl ?_
  refine w_gfr (q := 238) rfl rfl rfl rfl (j := 77) rfl ?_
  refine w_iconst (q := 239) rfl rfl ?_
  refine w_aload_n (q := 240) rfl rfl rfl ?_
  refine w_gfr (q := 243) rfl rfl rfl rfl (j := 33) rfl ?_
  refine w_iconst (q := 244) rfl rfl ?_
  refine w_aload_n (q := 245) rfl rfl rfl ?_
  refine w_gfi (q := 248) (k' := 16) (v := I 64 16) rfl rfl rfl rfl rfl rfl rfl ?_
  refine w_copy (q := 251) rfl rfl (n1 := 40) (n0 := 40) rfl rfl rfl rfl rfl h3 ?_
  exact w_vret rfl k
theorem e5 {xs : Nat → Int32} {xl : Nat} {I J : w_I} {b : Bool} {Q : Option Value → w_I → w_I → Bool → Prop} {a1 : Int} (t : w_T xs xl 5 0 [some (.ref 20), some (w_i a1)] [] [] I J b Q) : w_C xs xl 5 [.ref 20, w_i a1] I J b Q := w_en rfl t
theorem b5_0 {xs : Nat → Int32} {xl : Nat} {I J : w_I} {b : Bool} {Q : Option Value → w_I → w_I → Bool → Prop} {a1 : Int} (k : ((-2147483648 ≤ a1 ∧ a1 < 2147483648) ∧ ((a1 < 0 → Q (some (w_i 0)) I J b) ∧ (¬ a1 < 0 → ((-2147483648 ≤ I 20 13 ∧ I 20 13 < 2147483648) ∧ ((I 20 13 ≤ a1 → Q (some (w_i 0)) I J b) ∧ (¬ I 20 13 ≤ a1 → ((0 ≤ a1 ∧ a1 < 60) ∧ ((-2147483648 ≤ I 25 a1 ∧ I 25 a1 < 2147483648) ∧ ((I 25 a1 = (-1) → Q (some (w_i 0)) I J b) ∧ (¬ I 25 a1 = (-1) → Q (some (w_i 1)) I J b))))))))))) : w_T xs xl 5 0 [some (.ref 20), some (w_i a1)] [] [] I J b Q := by
  refine w_iload_n (q := 1) rfl rfl rfl ?_
  obtain ⟨h1, k⟩ := k
  refine w_zlt (t := 26) (q := 4) rfl rfl rfl h1 (fun c2 => ?_) (fun c2 => ?_)
  · replace k := k.1 c2
    refine w_iconst (q := 27) rfl rfl ?_
    refine w_iret rfl rfl k
  · replace k := k.2 c2
    refine w_iload_n (q := 5) rfl rfl rfl ?_
    refine w_aload_n (q := 6) rfl rfl rfl ?_
    refine w_gfi (q := 9) (k' := 13) (v := I 20 13) rfl rfl rfl rfl rfl rfl rfl ?_
    obtain ⟨h3, k⟩ := k
    refine w_cge (t := 26) (q := 12) rfl rfl rfl h1 h3 (fun c4 => ?_) (fun c4 => ?_)
    · replace k := k.1 c4
      refine w_iconst (q := 27) rfl rfl ?_
      refine w_iret rfl rfl k
    · replace k := k.2 c4
      refine w_aload_n (q := 13) rfl rfl rfl ?_
      refine w_gfr (q := 16) rfl rfl rfl rfl (j := 25) rfl ?_
      refine w_iload_n (q := 17) rfl rfl rfl ?_
      obtain ⟨h5, k⟩ := k
      refine w_iald (q := 18) (n := 60) (v := I 25 a1) rfl rfl rfl rfl rfl rfl h5 ?_
      refine w_iconst (q := 19) rfl rfl ?_
      obtain ⟨h6, k⟩ := k
      refine w_ceq (t := 26) (q := 22) rfl rfl rfl h6 (by decide) (fun c7 => ?_) (fun c7 => ?_)
      · replace k := k.1 c7
        refine w_iconst (q := 27) rfl rfl ?_
        refine w_iret rfl rfl k
      · replace k := k.2 c7
        refine w_iconst (q := 23) rfl rfl ?_
        refine w_goto (t := 27) rfl rfl ?_
        refine w_iret rfl rfl k
theorem e6 {xs : Nat → Int32} {xl : Nat} {I J : w_I} {b : Bool} {Q : Option Value → w_I → w_I → Bool → Prop} {a1 : Int} (t : w_T xs xl 6 0 [some (.ref 20), some (w_i a1)] [] [] I J b Q) : w_C xs xl 6 [.ref 20, w_i a1] I J b Q := w_en rfl t
theorem b6_0 {xs : Nat → Int32} {xl : Nat} {I J : w_I} {b : Bool} {Q : Option Value → w_I → w_I → Bool → Prop} {a1 : Int} (k : ((-2147483648 ≤ a1 ∧ a1 < 2147483648) ∧ ((a1 < 0 → Q (some (w_i 0)) I J b) ∧ (¬ a1 < 0 → ((-2147483648 ≤ I 20 14 ∧ I 20 14 < 2147483648) ∧ ((I 20 14 ≤ a1 → Q (some (w_i 0)) I J b) ∧ (¬ I 20 14 ≤ a1 → ((0 ≤ a1 ∧ a1 < 30) ∧ ((-2147483648 ≤ I 26 a1 ∧ I 26 a1 < 2147483648) ∧ ((I 26 a1 ≤ 0 → Q (some (w_i 0)) I J b) ∧ (¬ I 26 a1 ≤ 0 → Q (some (w_i 1)) I J b))))))))))) : w_T xs xl 6 0 [some (.ref 20), some (w_i a1)] [] [] I J b Q := by
  refine w_iload_n (q := 1) rfl rfl rfl ?_
  obtain ⟨h1, k⟩ := k
  refine w_zlt (t := 25) (q := 4) rfl rfl rfl h1 (fun c2 => ?_) (fun c2 => ?_)
  · replace k := k.1 c2
    refine w_iconst (q := 26) rfl rfl ?_
    refine w_iret rfl rfl k
  · replace k := k.2 c2
    refine w_iload_n (q := 5) rfl rfl rfl ?_
    refine w_aload_n (q := 6) rfl rfl rfl ?_
    refine w_gfi (q := 9) (k' := 14) (v := I 20 14) rfl rfl rfl rfl rfl rfl rfl ?_
    obtain ⟨h3, k⟩ := k
    refine w_cge (t := 25) (q := 12) rfl rfl rfl h1 h3 (fun c4 => ?_) (fun c4 => ?_)
    · replace k := k.1 c4
      refine w_iconst (q := 26) rfl rfl ?_
      refine w_iret rfl rfl k
    · replace k := k.2 c4
      refine w_aload_n (q := 13) rfl rfl rfl ?_
      refine w_gfr (q := 16) rfl rfl rfl rfl (j := 26) rfl ?_
      refine w_iload_n (q := 17) rfl rfl rfl ?_
      obtain ⟨h5, k⟩ := k
      refine w_iald (q := 18) (n := 30) (v := I 26 a1) rfl rfl rfl rfl rfl rfl h5 ?_
      obtain ⟨h6, k⟩ := k
      refine w_zle (t := 25) (q := 21) rfl rfl rfl h6 (fun c7 => ?_) (fun c7 => ?_)
      · replace k := k.1 c7
        refine w_iconst (q := 26) rfl rfl ?_
        refine w_iret rfl rfl k
      · replace k := k.2 c7
        refine w_iconst (q := 22) rfl rfl ?_
        refine w_goto (t := 26) rfl rfl ?_
        refine w_iret rfl rfl k
theorem e7 {xs : Nat → Int32} {xl : Nat} {I J : w_I} {b : Bool} {Q : Option Value → w_I → w_I → Bool → Prop} (t : w_T xs xl 7 0 [some (.ref 20)] [] [] I J b Q) : w_C xs xl 7 [.ref 20] I J b Q := w_en rfl t
theorem b7_0 {xs : Nat → Int32} {xl : Nat} {I J : w_I} {b : Bool} {Q : Option Value → w_I → w_I → Bool → Prop} (k : ((-2147483648 ≤ I 20 13 ∧ I 20 13 < 2147483648) ∧ ((60 ≤ I 20 13 → Q (some (w_i 1)) I J b) ∧ (¬ 60 ≤ I 20 13 → ((-2147483648 ≤ I 20 14 ∧ I 20 14 < 2147483648) ∧ ((I 20 14 < 30 → Q (some (w_i 0)) I J b) ∧ (¬ I 20 14 < 30 → Q (some (w_i 1)) I J b))))))) : w_T xs xl 7 0 [some (.ref 20)] [] [] I J b Q := by
  refine w_aload_n (q := 1) rfl rfl rfl ?_
  refine w_gfi (q := 4) (k' := 13) (v := I 20 13) rfl rfl rfl rfl rfl rfl rfl ?_
  refine w_bipush (q := 6) rfl rfl rfl ?_
  obtain ⟨h1, k⟩ := k
  refine w_cge (t := 18) (q := 9) rfl rfl rfl h1 (by decide) (fun c2 => ?_) (fun c2 => ?_)
  · replace k := k.1 c2
    refine w_iconst (q := 19) rfl rfl ?_
    refine w_goto (t := 23) rfl rfl ?_
    refine w_iret rfl rfl k
  · replace k := k.2 c2
    refine w_aload_n (q := 10) rfl rfl rfl ?_
    refine w_gfi (q := 13) (k' := 14) (v := I 20 14) rfl rfl rfl rfl rfl rfl rfl ?_
    refine w_bipush (q := 15) rfl rfl rfl ?_
    obtain ⟨h3, k⟩ := k
    refine w_clt (t := 22) (q := 18) rfl rfl rfl h3 (by decide) (fun c4 => ?_) (fun c4 => ?_)
    · replace k := k.1 c4
      refine w_iconst (q := 23) rfl rfl ?_
      refine w_iret rfl rfl k
    · replace k := k.2 c4
      refine w_iconst (q := 19) rfl rfl ?_
      refine w_goto (t := 23) rfl rfl ?_
      refine w_iret rfl rfl k
theorem e8 {xs : Nat → Int32} {xl : Nat} {I J : w_I} {b : Bool} {Q : Option Value → w_I → w_I → Bool → Prop} (t : w_T xs xl 8 0 [some (.ref 20), none, none] [] [] I J b Q) : w_C xs xl 8 [.ref 20] I J b Q := w_en rfl t
theorem b8_0 {xs : Nat → Int32} {xl : Nat} {I J : w_I} {b : Bool} {Q : Option Value → w_I → w_I → Bool → Prop} (k : w_T xs xl 8 4 [some (.ref 20), some (w_i 0), some (w_i 0)] [] [] I J b Q) : w_T xs xl 8 0 [some (.ref 20), none, none] [] [] I J b Q := by
  refine w_iconst (q := 1) rfl rfl ?_
  refine w_istore_n (q := 2) (L' := [some (.ref 20), some (w_i 0), none]) (M' := []) rfl rfl rfl rfl rfl ?_
  refine w_iconst (q := 3) rfl rfl ?_
  refine w_istore_n (q := 4) (L' := [some (.ref 20), some (w_i 0), some (w_i 0)]) (M' := []) rfl rfl rfl rfl rfl ?_
  exact k
theorem b8_4 {xs : Nat → Int32} {xl : Nat} {I J : w_I} {b : Bool} {Q : Option Value → w_I → w_I → Bool → Prop} {l1 l2 : Int} (k : ((-2147483648 ≤ l2 ∧ l2 < 2147483648) ∧ (-2147483648 ≤ I 20 14 ∧ I 20 14 < 2147483648) ∧ ((I 20 14 ≤ l2 → Q (some (w_i l1)) I J b) ∧ (¬ I 20 14 ≤ l2 → ((0 ≤ l2 ∧ l2 < 30) ∧ w_T xs xl 8 4 [some (.ref 20), some (w_i (l1 + I 26 l2)), some (w_i (l2 + 1))] [] [] I J b Q))))) : w_T xs xl 8 4 [some (.ref 20), some (w_i l1), some (w_i l2)] [] [] I J b Q := by
  refine w_iload_n (q := 5) rfl rfl rfl ?_
  refine w_aload_n (q := 6) rfl rfl rfl ?_
  refine w_gfi (q := 9) (k' := 14) (v := I 20 14) rfl rfl rfl rfl rfl rfl rfl ?_
  obtain ⟨h1, h2, k⟩ := k
  refine w_cge (t := 27) (q := 12) rfl rfl rfl h1 h2 (fun c3 => ?_) (fun c3 => ?_)
  · replace k := k.1 c3
    refine w_iload_n (q := 28) rfl rfl rfl ?_
    exact w_iret rfl rfl k
  · replace k := k.2 c3
    refine w_iload_n (q := 13) rfl rfl rfl ?_
    refine w_aload_n (q := 14) rfl rfl rfl ?_
    refine w_gfr (q := 17) rfl rfl rfl rfl (j := 26) rfl ?_
    refine w_iload_n (q := 18) rfl rfl rfl ?_
    obtain ⟨h4, k⟩ := k
    refine w_iald (q := 19) (n := 30) (v := I 26 l2) rfl rfl rfl rfl rfl rfl h4 ?_
    refine w_iadd (q := 20) rfl rfl ?_
    refine w_istore_n (q := 21) (L' := [some (.ref 20), some (w_i (l1 + I 26 l2)), some (w_i l2)]) (M' := []) rfl rfl rfl rfl rfl ?_
    refine w_iinc (q := 24) (L' := [some (.ref 20), some (w_i (l1 + I 26 l2)), some (w_i (l2 + 1))]) (M' := []) rfl rfl rfl rfl rfl rfl ?_
    refine w_goto (t := 4) rfl rfl ?_
    exact k
theorem e9 {xs : Nat → Int32} {xl : Nat} {I J : w_I} {b : Bool} {Q : Option Value → w_I → w_I → Bool → Prop} (t : w_T xs xl 9 0 [some (.ref 20), none, none] [] [] I J b Q) : w_C xs xl 9 [.ref 20] I J b Q := w_en rfl t
theorem b9_0 {xs : Nat → Int32} {xl : Nat} {I J : w_I} {b : Bool} {Q : Option Value → w_I → w_I → Bool → Prop} (k : w_T xs xl 9 4 [some (.ref 20), some (w_i 0), some (w_i 0)] [] [] I J b Q) : w_T xs xl 9 0 [some (.ref 20), none, none] [] [] I J b Q := by
  refine w_iconst (q := 1) rfl rfl ?_
  refine w_istore_n (q := 2) (L' := [some (.ref 20), some (w_i 0), none]) (M' := []) rfl rfl rfl rfl rfl ?_
  refine w_iconst (q := 3) rfl rfl ?_
  refine w_istore_n (q := 4) (L' := [some (.ref 20), some (w_i 0), some (w_i 0)]) (M' := []) rfl rfl rfl rfl rfl ?_
  exact k
theorem b9_4 {xs : Nat → Int32} {xl : Nat} {I J : w_I} {b : Bool} {Q : Option Value → w_I → w_I → Bool → Prop} {l1 l2 : Int} (k : ((-2147483648 ≤ l2 ∧ l2 < 2147483648) ∧ (-2147483648 ≤ I 20 14 ∧ I 20 14 < 2147483648) ∧ ((I 20 14 ≤ l2 → Q (some (w_i l1)) I J b) ∧ (¬ I 20 14 ≤ l2 → ((0 ≤ l2 ∧ l2 < 30) ∧ ((-2147483648 ≤ I 26 l2 ∧ I 26 l2 < 2147483648) ∧ ((I 26 l2 ≤ 0 → w_T xs xl 9 4 [some (.ref 20), some (w_i (l1 + 0)), some (w_i (l2 + 1))] [] [] I J b Q) ∧ (¬ I 26 l2 ≤ 0 → w_T xs xl 9 4 [some (.ref 20), some (w_i (l1 + 1)), some (w_i (l2 + 1))] [] [] I J b Q)))))))) : w_T xs xl 9 4 [some (.ref 20), some (w_i l1), some (w_i l2)] [] [] I J b Q := by
  refine w_iload_n (q := 5) rfl rfl rfl ?_
  refine w_aload_n (q := 6) rfl rfl rfl ?_
  refine w_gfi (q := 9) (k' := 14) (v := I 20 14) rfl rfl rfl rfl rfl rfl rfl ?_
  obtain ⟨h1, h2, k⟩ := k
  refine w_cge (t := 35) (q := 12) rfl rfl rfl h1 h2 (fun c3 => ?_) (fun c3 => ?_)
  · replace k := k.1 c3
    refine w_iload_n (q := 36) rfl rfl rfl ?_
    exact w_iret rfl rfl k
  · replace k := k.2 c3
    refine w_iload_n (q := 13) rfl rfl rfl ?_
    refine w_aload_n (q := 14) rfl rfl rfl ?_
    refine w_gfr (q := 17) rfl rfl rfl rfl (j := 26) rfl ?_
    refine w_iload_n (q := 18) rfl rfl rfl ?_
    obtain ⟨h4, k⟩ := k
    refine w_iald (q := 19) (n := 30) (v := I 26 l2) rfl rfl rfl rfl rfl rfl h4 ?_
    obtain ⟨h5, k⟩ := k
    refine w_zle (t := 26) (q := 22) rfl rfl rfl h5 (fun c6 => ?_) (fun c6 => ?_)
    · replace k := k.1 c6
      refine w_iconst (q := 27) rfl rfl ?_
      refine w_iadd (q := 28) rfl rfl ?_
      refine w_istore_n (q := 29) (L' := [some (.ref 20), some (w_i (l1 + 0)), some (w_i l2)]) (M' := []) rfl rfl rfl rfl rfl ?_
      refine w_iinc (q := 32) (L' := [some (.ref 20), some (w_i (l1 + 0)), some (w_i (l2 + 1))]) (M' := []) rfl rfl rfl rfl rfl rfl ?_
      refine w_goto (t := 4) rfl rfl ?_
      exact k
    · replace k := k.2 c6
      refine w_iconst (q := 23) rfl rfl ?_
      refine w_goto (t := 27) rfl rfl ?_
      refine w_iadd (q := 28) rfl rfl ?_
      refine w_istore_n (q := 29) (L' := [some (.ref 20), some (w_i (l1 + 1)), some (w_i l2)]) (M' := []) rfl rfl rfl rfl rfl ?_
      refine w_iinc (q := 32) (L' := [some (.ref 20), some (w_i (l1 + 1)), some (w_i (l2 + 1))]) (M' := []) rfl rfl rfl rfl rfl rfl ?_
      refine w_goto (t := 4) rfl rfl ?_
      exact k
theorem e10 {xs : Nat → Int32} {xl : Nat} {I J : w_I} {b : Bool} {Q : Option Value → w_I → w_I → Bool → Prop} (t : w_T xs xl 10 0 [some (.ref 20), none, none] [] [] I J b Q) : w_C xs xl 10 [.ref 20] I J b Q := w_en rfl t
theorem b10_0 {xs : Nat → Int32} {xl : Nat} {I J : w_I} {b : Bool} {Q : Option Value → w_I → w_I → Bool → Prop} (k : w_T xs xl 10 4 [some (.ref 20), some (w_i 0), some (w_i 0)] [] [] I J b Q) : w_T xs xl 10 0 [some (.ref 20), none, none] [] [] I J b Q := by
  refine w_iconst (q := 1) rfl rfl ?_
  refine w_istore_n (q := 2) (L' := [some (.ref 20), some (w_i 0), none]) (M' := []) rfl rfl rfl rfl rfl ?_
  refine w_iconst (q := 3) rfl rfl ?_
  refine w_istore_n (q := 4) (L' := [some (.ref 20), some (w_i 0), some (w_i 0)]) (M' := []) rfl rfl rfl rfl rfl ?_
  exact k
theorem b10_4 {xs : Nat → Int32} {xl : Nat} {I J : w_I} {b : Bool} {Q : Option Value → w_I → w_I → Bool → Prop} {l1 l2 : Int} (k : ((-2147483648 ≤ l2 ∧ l2 < 2147483648) ∧ ((24 ≤ l2 → Q (some (w_i l1)) I J b) ∧ (¬ 24 ≤ l2 → ((0 ≤ l2 ∧ l2 < 24) ∧ ((-2147483648 ≤ I 30 l2 ∧ I 30 l2 < 2147483648) ∧ ((I 30 l2 = (-1) → w_T xs xl 10 4 [some (.ref 20), some (w_i (l1 + 0)), some (w_i (l2 + 1))] [] [] I J b Q) ∧ (¬ I 30 l2 = (-1) → w_T xs xl 10 4 [some (.ref 20), some (w_i (l1 + 1)), some (w_i (l2 + 1))] [] [] I J b Q)))))))) : w_T xs xl 10 4 [some (.ref 20), some (w_i l1), some (w_i l2)] [] [] I J b Q := by
  refine w_iload_n (q := 5) rfl rfl rfl ?_
  refine w_bipush (q := 7) rfl rfl rfl ?_
  obtain ⟨h1, k⟩ := k
  refine w_cge (t := 34) (q := 10) rfl rfl rfl h1 (by decide) (fun c2 => ?_) (fun c2 => ?_)
  · replace k := k.1 c2
    refine w_iload_n (q := 35) rfl rfl rfl ?_
    exact w_iret rfl rfl k
  · replace k := k.2 c2
    refine w_iload_n (q := 11) rfl rfl rfl ?_
    refine w_aload_n (q := 12) rfl rfl rfl ?_
    refine w_gfr (q := 15) rfl rfl rfl rfl (j := 30) rfl ?_
    refine w_iload_n (q := 16) rfl rfl rfl ?_
    obtain ⟨h3, k⟩ := k
    refine w_iald (q := 17) (n := 24) (v := I 30 l2) rfl rfl rfl rfl rfl rfl h3 ?_
    refine w_iconst (q := 18) rfl rfl ?_
    obtain ⟨h4, k⟩ := k
    refine w_ceq (t := 25) (q := 21) rfl rfl rfl h4 (by decide) (fun c5 => ?_) (fun c5 => ?_)
    · replace k := k.1 c5
      refine w_iconst (q := 26) rfl rfl ?_
      refine w_iadd (q := 27) rfl rfl ?_
      refine w_istore_n (q := 28) (L' := [some (.ref 20), some (w_i (l1 + 0)), some (w_i l2)]) (M' := []) rfl rfl rfl rfl rfl ?_
      refine w_iinc (q := 31) (L' := [some (.ref 20), some (w_i (l1 + 0)), some (w_i (l2 + 1))]) (M' := []) rfl rfl rfl rfl rfl rfl ?_
      refine w_goto (t := 4) rfl rfl ?_
      exact k
    · replace k := k.2 c5
      refine w_iconst (q := 22) rfl rfl ?_
      refine w_goto (t := 26) rfl rfl ?_
      refine w_iadd (q := 27) rfl rfl ?_
      refine w_istore_n (q := 28) (L' := [some (.ref 20), some (w_i (l1 + 1)), some (w_i l2)]) (M' := []) rfl rfl rfl rfl rfl ?_
      refine w_iinc (q := 31) (L' := [some (.ref 20), some (w_i (l1 + 1)), some (w_i (l2 + 1))]) (M' := []) rfl rfl rfl rfl rfl rfl ?_
      refine w_goto (t := 4) rfl rfl ?_
      exact k
theorem e11 {xs : Nat → Int32} {xl : Nat} {I J : w_I} {b : Bool} {Q : Option Value → w_I → w_I → Bool → Prop} {a1 a2 : Int} (t : w_T xs xl 11 0 [some (.ref 20), some (w_i a1), some (w_i a2), none] [] [] I J b Q) : w_C xs xl 11 [.ref 20, w_i a1, w_i a2] I J b Q := w_en rfl t
theorem b11_0 {xs : Nat → Int32} {xl : Nat} {I J : w_I} {b : Bool} {Q : Option Value → w_I → w_I → Bool → Prop} {a1 a2 : Int} (k : ((-2147483648 ≤ a2 ∧ a2 < 2147483648) ∧ ((a2 = 0 → ((0 ≤ a1 ∧ a1 < 60) ∧ (((0 : Int) ≤ I 20 15 - I 21 a1 ∧ I 20 15 - I 21 a1 < 2147483648 ∧ (0 : Int) < 12 ∧ 12 < (2147483648 : Int)) ∧ Q (some (w_i (I 23 a1 + (I 20 15 - I 21 a1) / 12))) I J b))) ∧ (¬ a2 = 0 → ((0 ≤ a1 ∧ a1 < 60) ∧ (((0 : Int) ≤ I 20 15 - I 21 a1 ∧ I 20 15 - I 21 a1 < 2147483648 ∧ (0 : Int) < 12 ∧ 12 < (2147483648 : Int)) ∧ Q (some (w_i (I 22 a1 + (I 20 15 - I 21 a1) / 12))) I J b)))))) : w_T xs xl 11 0 [some (.ref 20), some (w_i a1), some (w_i a2), none] [] [] I J b Q := by
  refine w_iload_n (q := 1) rfl rfl rfl ?_
  obtain ⟨h1, k⟩ := k
  refine w_zeq (t := 13) (q := 4) rfl rfl rfl h1 (fun c2 => ?_) (fun c2 => ?_)
  · replace k := k.1 c2
    refine w_aload_n (q := 14) rfl rfl rfl ?_
    refine w_gfr (q := 17) rfl rfl rfl rfl (j := 23) rfl ?_
    refine w_iload_n (q := 18) rfl rfl rfl ?_
    obtain ⟨h3, k⟩ := k
    refine w_iald (q := 19) (n := 60) (v := I 23 a1) rfl rfl rfl rfl rfl rfl h3 ?_
    refine w_istore_n (q := 20) (L' := [some (.ref 20), some (w_i a1), some (w_i a2), some (w_i (I 23 a1))]) (M' := []) rfl rfl rfl rfl rfl ?_
    refine w_iload_n (q := 21) rfl rfl rfl ?_
    refine w_aload_n (q := 22) rfl rfl rfl ?_
    refine w_gfi (q := 25) (k' := 15) (v := I 20 15) rfl rfl rfl rfl rfl rfl rfl ?_
    refine w_aload_n (q := 26) rfl rfl rfl ?_
    refine w_gfr (q := 29) rfl rfl rfl rfl (j := 21) rfl ?_
    refine w_iload_n (q := 30) rfl rfl rfl ?_
    refine w_iald (q := 31) (n := 60) (v := I 21 a1) rfl rfl rfl rfl rfl rfl h3 ?_
    refine w_isub (q := 32) rfl rfl ?_
    refine w_bipush (q := 34) rfl rfl rfl ?_
    obtain ⟨h4, k⟩ := k
    refine w_idiv (q := 35) rfl rfl h4 ?_
    refine w_iadd (q := 36) rfl rfl ?_
    exact w_iret rfl rfl k
  · replace k := k.2 c2
    refine w_aload_n (q := 5) rfl rfl rfl ?_
    refine w_gfr (q := 8) rfl rfl rfl rfl (j := 22) rfl ?_
    refine w_iload_n (q := 9) rfl rfl rfl ?_
    obtain ⟨h5, k⟩ := k
    refine w_iald (q := 10) (n := 60) (v := I 22 a1) rfl rfl rfl rfl rfl rfl h5 ?_
    refine w_goto (t := 19) rfl rfl ?_
    refine w_istore_n (q := 20) (L' := [some (.ref 20), some (w_i a1), some (w_i a2), some (w_i (I 22 a1))]) (M' := []) rfl rfl rfl rfl rfl ?_
    refine w_iload_n (q := 21) rfl rfl rfl ?_
    refine w_aload_n (q := 22) rfl rfl rfl ?_
    refine w_gfi (q := 25) (k' := 15) (v := I 20 15) rfl rfl rfl rfl rfl rfl rfl ?_
    refine w_aload_n (q := 26) rfl rfl rfl ?_
    refine w_gfr (q := 29) rfl rfl rfl rfl (j := 21) rfl ?_
    refine w_iload_n (q := 30) rfl rfl rfl ?_
    refine w_iald (q := 31) (n := 60) (v := I 21 a1) rfl rfl rfl rfl rfl rfl h5 ?_
    refine w_isub (q := 32) rfl rfl ?_
    refine w_bipush (q := 34) rfl rfl rfl ?_
    obtain ⟨h6, k⟩ := k
    refine w_idiv (q := 35) rfl rfl h6 ?_
    refine w_iadd (q := 36) rfl rfl ?_
    exact w_iret rfl rfl k
theorem e12 {xs : Nat → Int32} {xl : Nat} {I J : w_I} {b : Bool} {Q : Option Value → w_I → w_I → Bool → Prop} {a1 a2 a3 : Int} (t : w_T xs xl 12 0 [some (.ref 20), some (w_i a1), some (w_i a2), some (w_i a3), none, none] [] [] I J b Q) : w_C xs xl 12 [.ref 20, w_i a1, w_i a2, w_i a3] I J b Q := w_en rfl t
theorem b12_0 {xs : Nat → Int32} {xl : Nat} {I J : w_I} {b : Bool} {Q : Option Value → w_I → w_I → Bool → Prop} {a1 a2 a3 : Int} (k : w_C xs xl 7 [.ref 20] I J b (fun v Ic Jc bc => w_T xs xl 12 4 [some (.ref 20), some (w_i a1), some (w_i a2), some (w_i a3), none, none] [] (w_pv v []) Ic Jc bc Q)) : w_T xs xl 12 0 [some (.ref 20), some (w_i a1), some (w_i a2), some (w_i a3), none, none] [] [] I J b Q := by
  refine w_aload_n (q := 1) rfl rfl rfl ?_
  refine w_callv (q := 4) rfl rfl rfl rfl rfl rfl ?_
  exact k
theorem b12_4 {xs : Nat → Int32} {xl : Nat} {I J : w_I} {b : Bool} {Q : Option Value → w_I → w_I → Bool → Prop} {l1 l2 l3 s0 : Int} {u4 u5 : Option Value} (k : ((-2147483648 ≤ s0 ∧ s0 < 2147483648) ∧ ((s0 = 0 → ((0 ≤ I 20 13 ∧ I 20 13 < 60) ∧ ((0 ≤ I 20 14 ∧ I 20 14 < 30) ∧ w_C xs xl 13 [.ref 20, w_i (I 20 13), w_i (I 20 14)] (w_U (w_U (w_U (w_U (w_U (w_U (w_U (w_U (w_U (w_U I 20 13 (I 20 13 + 1)) 20 14 (I 20 14 + 1)) 21 (I 20 13) (I 20 15)) 22 (I 20 13) l1) 23 (I 20 13) l2) 24 (I 20 13) l3) 26 (I 20 14) 0) 27 (I 20 14) 0) 28 (I 20 14) (-1)) 29 (I 20 14) (-1)) J b (fun v Ic Jc bc => w_T xs xl 12 116 [some (.ref 20), some (w_i l1), some (w_i l2), some (w_i l3), some (w_i (I 20 13)), some (w_i (I 20 14))] [] (w_pv v []) Ic Jc bc Q)))) ∧ (¬ s0 = 0 → Q (some (w_i (-1))) I J b)))) : w_T xs xl 12 4 [some (.ref 20), some (w_i l1), some (w_i l2), some (w_i l3), u4, u5] [] [w_i s0] I J b Q := by
  obtain ⟨h1, k⟩ := k
  refine w_zeq (t := 9) (q := 7) rfl rfl rfl h1 (fun c2 => ?_) (fun c2 => ?_)
  · replace k := k.1 c2
    refine w_aload_n (q := 10) rfl rfl rfl ?_
    refine w_gfi (q := 13) (k' := 13) (v := I 20 13) rfl rfl rfl rfl rfl rfl rfl ?_
    refine w_istore (q := 15) (L' := [some (.ref 20), some (w_i l1), some (w_i l2), some (w_i l3), some (w_i (I 20 13)), u5]) (M' := []) rfl rfl rfl rfl rfl ?_
    refine w_aload_n (q := 16) rfl rfl rfl ?_
    refine w_gfi (q := 19) (k' := 14) (v := I 20 14) rfl rfl rfl rfl rfl rfl rfl ?_
    refine w_istore (q := 21) (L' := [some (.ref 20), some (w_i l1), some (w_i l2), some (w_i l3), some (w_i (I 20 13)), some (w_i (I 20 14))]) (M' := []) rfl rfl rfl rfl rfl ?_
    refine w_aload_n (q := 22) rfl rfl rfl ?_
    refine w_dup (q := 23) rfl rfl rfl ?_
    refine w_gfi (q := 26) (k' := 13) (v := I 20 13) rfl rfl rfl rfl rfl rfl rfl ?_
    refine w_iconst (q := 27) rfl rfl ?_
    refine w_iadd (q := 28) rfl rfl ?_
    refine w_pfi (q := 31) (k' := 13) rfl rfl rfl rfl ?_
    refine w_aload_n (q := 32) rfl rfl rfl ?_
    refine w_dup (q := 33) rfl rfl rfl ?_
    refine w_gfi (q := 36) (k' := 14) (v := I 20 14) rfl rfl rfl rfl rfl rfl rfl ?_
    refine w_iconst (q := 37) rfl rfl ?_
    refine w_iadd (q := 38) rfl rfl ?_
    refine w_pfi (q := 41) (k' := 14) rfl rfl rfl rfl ?_
    refine w_aload_n (q := 42) rfl rfl rfl ?_
    refine w_gfr (q := 45) rfl rfl rfl rfl (j := 21) rfl ?_
    refine w_iload (q := 47) rfl rfl rfl ?_
    refine w_aload_n (q := 48) rfl rfl rfl ?_
    refine w_gfi (q := 51) (k' := 15) (v := I 20 15) rfl rfl rfl rfl rfl rfl rfl ?_
    obtain ⟨h3, k⟩ := k
    refine w_iast (q := 52) (n := 60) rfl rfl rfl rfl rfl h3 ?_
    refine w_aload_n (q := 53) rfl rfl rfl ?_
    refine w_gfr (q := 56) rfl rfl rfl rfl (j := 22) rfl ?_
    refine w_iload (q := 58) rfl rfl rfl ?_
    refine w_iload_n (q := 59) rfl rfl rfl ?_
    refine w_iast (q := 60) (n := 60) rfl rfl rfl rfl rfl h3 ?_
    refine w_aload_n (q := 61) rfl rfl rfl ?_
    refine w_gfr (q := 64) rfl rfl rfl rfl (j := 23) rfl ?_
    refine w_iload (q := 66) rfl rfl rfl ?_
    refine w_iload_n (q := 67) rfl rfl rfl ?_
    refine w_iast (q := 68) (n := 60) rfl rfl rfl rfl rfl h3 ?_
    refine w_aload_n (q := 69) rfl rfl rfl ?_
    refine w_gfr (q := 72) rfl rfl rfl rfl (j := 24) rfl ?_
    refine w_iload (q := 74) rfl rfl rfl ?_
    refine w_iload_n (q := 75) rfl rfl rfl ?_
    refine w_iast (q := 76) (n := 60) rfl rfl rfl rfl rfl h3 ?_
    refine w_aload_n (q := 77) rfl rfl rfl ?_
    refine w_gfr (q := 80) rfl rfl rfl rfl (j := 26) rfl ?_
    refine w_iload (q := 82) rfl rfl rfl ?_
    refine w_iconst (q := 83) rfl rfl ?_
    obtain ⟨h4, k⟩ := k
    refine w_iast (q := 84) (n := 30) rfl rfl rfl rfl rfl h4 ?_
    refine w_aload_n (q := 85) rfl rfl rfl ?_
    refine w_gfr (q := 88) rfl rfl rfl rfl (j := 27) rfl ?_
    refine w_iload (q := 90) rfl rfl rfl ?_
    refine w_iconst (q := 91) rfl rfl ?_
    refine w_iast (q := 92) (n := 30) rfl rfl rfl rfl rfl h4 ?_
    refine w_aload_n (q := 93) rfl rfl rfl ?_
    refine w_gfr (q := 96) rfl rfl rfl rfl (j := 28) rfl ?_
    refine w_iload (q := 98) rfl rfl rfl ?_
    refine w_iconst (q := 99) rfl rfl ?_
    refine w_iast (q := 100) (n := 30) rfl rfl rfl rfl rfl h4 ?_
    refine w_aload_n (q := 101) rfl rfl rfl ?_
    refine w_gfr (q := 104) rfl rfl rfl rfl (j := 29) rfl ?_
    refine w_iload (q := 106) rfl rfl rfl ?_
    refine w_iconst (q := 107) rfl rfl ?_
    refine w_iast (q := 108) (n := 30) rfl rfl rfl rfl rfl h4 ?_
    refine w_aload_n (q := 109) rfl rfl rfl ?_
    refine w_iload (q := 111) rfl rfl rfl ?_
    refine w_iload (q := 113) rfl rfl rfl ?_
    refine w_callv (q := 116) rfl rfl rfl rfl rfl rfl ?_
    exact k
  · replace k := k.2 c2
    refine w_iconst (q := 8) rfl rfl ?_
    exact w_iret rfl rfl k
theorem b12_116 {xs : Nat → Int32} {xl : Nat} {I J : w_I} {b : Bool} {Q : Option Value → w_I → w_I → Bool → Prop} {u1 u2 u3 u5 : Option Value} {l4 : Int} (k : Q (some (w_i l4)) I J b) : w_T xs xl 12 116 [some (.ref 20), u1, u2, u3, some (w_i l4), u5] [] [] I J b Q := by
  refine w_iload (q := 118) rfl rfl rfl ?_
  exact w_iret rfl rfl k
theorem e13 {xs : Nat → Int32} {xl : Nat} {I J : w_I} {b : Bool} {Q : Option Value → w_I → w_I → Bool → Prop} {a1 a2 : Int} (t : w_T xs xl 13 0 [some (.ref 20), some (w_i a1), some (w_i a2)] [] [] I J b Q) : w_C xs xl 13 [.ref 20, w_i a1, w_i a2] I J b Q := w_en rfl t
theorem b13_0 {xs : Nat → Int32} {xl : Nat} {I J : w_I} {b : Bool} {Q : Option Value → w_I → w_I → Bool → Prop} {a1 a2 : Int} (k : ((0 ≤ a1 ∧ a1 < 60) ∧ ((0 ≤ a2 ∧ a2 < 30) ∧ Q none (w_U (w_U (w_U I 25 a1 a2) 26 a2 (I 26 a2 + 1)) 27 a2 (I 27 a2 + I 24 a1)) J b))) : w_T xs xl 13 0 [some (.ref 20), some (w_i a1), some (w_i a2)] [] [] I J b Q := by
  refine w_aload_n (q := 1) rfl rfl rfl ?_
  refine w_gfr (q := 4) rfl rfl rfl rfl (j := 25) rfl ?_
  refine w_iload_n (q := 5) rfl rfl rfl ?_
  refine w_iload_n (q := 6) rfl rfl rfl ?_
  obtain ⟨h1, k⟩ := k
  refine w_iast (q := 7) (n := 60) rfl rfl rfl rfl rfl h1 ?_
  refine w_aload_n (q := 8) rfl rfl rfl ?_
  refine w_gfr (q := 11) rfl rfl rfl rfl (j := 26) rfl ?_
  refine w_iload_n (q := 12) rfl rfl rfl ?_
  refine w_dup2 (q := 13) rfl rfl rfl rfl ?_
  obtain ⟨h2, k⟩ := k
  refine w_iald (q := 14) (n := 30) (v := I 26 a2) rfl rfl rfl rfl rfl rfl h2 ?_
  refine w_iconst (q := 15) rfl rfl ?_
  refine w_iadd (q := 16) rfl rfl ?_
  refine w_iast (q := 17) (n := 30) rfl rfl rfl rfl rfl h2 ?_
  refine w_aload_n (q := 18) rfl rfl rfl ?_
  refine w_gfr (q := 21) rfl rfl rfl rfl (j := 27) rfl ?_
  refine w_iload_n (q := 22) rfl rfl rfl ?_
  refine w_dup2 (q := 23) rfl rfl rfl rfl ?_
  refine w_iald (q := 24) (n := 30) (v := I 27 a2) rfl rfl rfl rfl rfl rfl h2 ?_
  refine w_aload_n (q := 25) rfl rfl rfl ?_
  refine w_gfr (q := 28) rfl rfl rfl rfl (j := 24) rfl ?_
  refine w_iload_n (q := 29) rfl rfl rfl ?_
  refine w_iald (q := 30) (n := 60) (v := I 24 a1) rfl rfl rfl rfl rfl rfl h1 ?_
  refine w_iadd (q := 31) rfl rfl ?_
  refine w_iast (q := 32) (n := 30) rfl rfl rfl rfl rfl h2 ?_
  exact w_vret rfl k
theorem e14 {xs : Nat → Int32} {xl : Nat} {I J : w_I} {b : Bool} {Q : Option Value → w_I → w_I → Bool → Prop} {a1 : Int} (t : w_T xs xl 14 0 [some (.ref 20), some (w_i a1), none] [] [] I J b Q) : w_C xs xl 14 [.ref 20, w_i a1] I J b Q := w_en rfl t
theorem b14_0 {xs : Nat → Int32} {xl : Nat} {I J : w_I} {b : Bool} {Q : Option Value → w_I → w_I → Bool → Prop} {a1 : Int} (k : ((0 ≤ a1 ∧ a1 < 60) ∧ ((0 ≤ I 25 a1 ∧ I 25 a1 < 30) ∧ ((-2147483648 ≤ I 26 (I 25 a1) - 1 ∧ I 26 (I 25 a1) - 1 < 2147483648) ∧ ((¬ I 26 (I 25 a1) - 1 = 0 → Q none (w_U (w_U (w_U I 25 a1 (-1)) 26 (I 25 a1) (I 26 (I 25 a1) - 1)) 27 (I 25 a1) (I 27 (I 25 a1) - I 24 a1)) J b) ∧ (I 26 (I 25 a1) - 1 = 0 → w_C xs xl 15 [.ref 20, w_i (I 25 a1)] (w_U (w_U (w_U I 25 a1 (-1)) 26 (I 25 a1) (I 26 (I 25 a1) - 1)) 27 (I 25 a1) (I 27 (I 25 a1) - I 24 a1)) J b (fun v Ic Jc bc => w_T xs xl 14 53 [some (.ref 20), some (w_i a1), some (w_i (I 25 a1))] [] (w_pv v []) Ic Jc bc Q))))))) : w_T xs xl 14 0 [some (.ref 20), some (w_i a1), none] [] [] I J b Q := by
  refine w_aload_n (q := 1) rfl rfl rfl ?_
  refine w_gfr (q := 4) rfl rfl rfl rfl (j := 25) rfl ?_
  refine w_iload_n (q := 5) rfl rfl rfl ?_
  obtain ⟨h1, k⟩ := k
  refine w_iald (q := 6) (n := 60) (v := I 25 a1) rfl rfl rfl rfl rfl rfl h1 ?_
  refine w_istore_n (q := 7) (L' := [some (.ref 20), some (w_i a1), some (w_i (I 25 a1))]) (M' := []) rfl rfl rfl rfl rfl ?_
  refine w_aload_n (q := 8) rfl rfl rfl ?_
  refine w_gfr (q := 11) rfl rfl rfl rfl (j := 25) rfl ?_
  refine w_iload_n (q := 12) rfl rfl rfl ?_
  refine w_iconst (q := 13) rfl rfl ?_
  refine w_iast (q := 14) (n := 60) rfl rfl rfl rfl rfl h1 ?_
  refine w_aload_n (q := 15) rfl rfl rfl ?_
  refine w_gfr (q := 18) rfl rfl rfl rfl (j := 26) rfl ?_
  refine w_iload_n (q := 19) rfl rfl rfl ?_
  refine w_dup2 (q := 20) rfl rfl rfl rfl ?_
  obtain ⟨h2, k⟩ := k
  refine w_iald (q := 21) (n := 30) (v := I 26 (I 25 a1)) rfl rfl rfl rfl rfl rfl h2 ?_
  refine w_iconst (q := 22) rfl rfl ?_
  refine w_isub (q := 23) rfl rfl ?_
  refine w_iast (q := 24) (n := 30) rfl rfl rfl rfl rfl h2 ?_
  refine w_aload_n (q := 25) rfl rfl rfl ?_
  refine w_gfr (q := 28) rfl rfl rfl rfl (j := 27) rfl ?_
  refine w_iload_n (q := 29) rfl rfl rfl ?_
  refine w_dup2 (q := 30) rfl rfl rfl rfl ?_
  refine w_iald (q := 31) (n := 30) (v := I 27 (I 25 a1)) rfl rfl rfl rfl rfl rfl h2 ?_
  refine w_aload_n (q := 32) rfl rfl rfl ?_
  refine w_gfr (q := 35) rfl rfl rfl rfl (j := 24) rfl ?_
  refine w_iload_n (q := 36) rfl rfl rfl ?_
  refine w_iald (q := 37) (n := 60) (v := I 24 a1) rfl rfl rfl rfl rfl rfl h1 ?_
  refine w_isub (q := 38) rfl rfl ?_
  refine w_iast (q := 39) (n := 30) rfl rfl rfl rfl rfl h2 ?_
  refine w_aload_n (q := 40) rfl rfl rfl ?_
  refine w_gfr (q := 43) rfl rfl rfl rfl (j := 26) rfl ?_
  refine w_iload_n (q := 44) rfl rfl rfl ?_
  refine w_iald (q := 45) (n := 30) (v := I 26 (I 25 a1) - 1) rfl rfl rfl rfl rfl (by simp only [w_Ug, w_cpg, reduceIte, Nat.reduceEqDiff, Int.reduceEq, Int.reduceNeg, eq_self]) h2 ?_
  obtain ⟨h3, k⟩ := k
  refine w_zne (t := 53) (q := 48) rfl rfl rfl h3 (fun c4 => ?_) (fun c4 => ?_)
  · replace k := k.1 c4
    exact w_vret rfl k
  · replace k := k.2 c4
    refine w_aload_n (q := 49) rfl rfl rfl ?_
    refine w_iload_n (q := 50) rfl rfl rfl ?_
    refine w_callv (q := 53) rfl rfl rfl rfl rfl rfl ?_
    exact k
theorem b14_53 {xs : Nat → Int32} {xl : Nat} {I J : w_I} {b : Bool} {Q : Option Value → w_I → w_I → Bool → Prop} {u1 u2 : Option Value} (k : Q none I J b) : w_T xs xl 14 53 [some (.ref 20), u1, u2] [] [] I J b Q := by
  exact w_vret rfl k
theorem e15 {xs : Nat → Int32} {xl : Nat} {I J : w_I} {b : Bool} {Q : Option Value → w_I → w_I → Bool → Prop} {a1 : Int} (t : w_T xs xl 15 0 [some (.ref 20), some (w_i a1)] [] [] I J b Q) : w_C xs xl 15 [.ref 20, w_i a1] I J b Q := w_en rfl t
theorem b15_0 {xs : Nat → Int32} {xl : Nat} {I J : w_I} {b : Bool} {Q : Option Value → w_I → w_I → Bool → Prop} {a1 : Int} (k : ((0 ≤ a1 ∧ a1 < 30) ∧ ((-2147483648 ≤ I 28 a1 ∧ I 28 a1 < 2147483648) ∧ ((I 28 a1 = (-1) → Q none I J b) ∧ (¬ I 28 a1 = (-1) → ((0 ≤ I 28 a1 ∧ I 28 a1 < 24) ∧ Q none (w_U (w_U I 30 (I 28 a1) (-1)) 28 a1 (-1)) J b)))))) : w_T xs xl 15 0 [some (.ref 20), some (w_i a1)] [] [] I J b Q := by
  refine w_aload_n (q := 1) rfl rfl rfl ?_
  refine w_gfr (q := 4) rfl rfl rfl rfl (j := 28) rfl ?_
  refine w_iload_n (q := 5) rfl rfl rfl ?_
  obtain ⟨h1, k⟩ := k
  refine w_iald (q := 6) (n := 30) (v := I 28 a1) rfl rfl rfl rfl rfl rfl h1 ?_
  refine w_iconst (q := 7) rfl rfl ?_
  obtain ⟨h2, k⟩ := k
  refine w_ceq (t := 29) (q := 10) rfl rfl rfl h2 (by decide) (fun c3 => ?_) (fun c3 => ?_)
  · replace k := k.1 c3
    exact w_vret rfl k
  · replace k := k.2 c3
    refine w_aload_n (q := 11) rfl rfl rfl ?_
    refine w_gfr (q := 14) rfl rfl rfl rfl (j := 30) rfl ?_
    refine w_aload_n (q := 15) rfl rfl rfl ?_
    refine w_gfr (q := 18) rfl rfl rfl rfl (j := 28) rfl ?_
    refine w_iload_n (q := 19) rfl rfl rfl ?_
    refine w_iald (q := 20) (n := 30) (v := I 28 a1) rfl rfl rfl rfl rfl rfl h1 ?_
    refine w_iconst (q := 21) rfl rfl ?_
    obtain ⟨h4, k⟩ := k
    refine w_iast (q := 22) (n := 24) rfl rfl rfl rfl rfl h4 ?_
    refine w_aload_n (q := 23) rfl rfl rfl ?_
    refine w_gfr (q := 26) rfl rfl rfl rfl (j := 28) rfl ?_
    refine w_iload_n (q := 27) rfl rfl rfl ?_
    refine w_iconst (q := 28) rfl rfl ?_
    refine w_iast (q := 29) (n := 30) rfl rfl rfl rfl rfl h1 ?_
    exact w_vret rfl k
theorem e16 {xs : Nat → Int32} {xl : Nat} {I J : w_I} {b : Bool} {Q : Option Value → w_I → w_I → Bool → Prop} {a1 a2 : Int} (t : w_T xs xl 16 0 [some (.ref 20), some (w_i a1), some (w_i a2)] [] [] I J b Q) : w_C xs xl 16 [.ref 20, w_i a1, w_i a2] I J b Q := w_en rfl t
theorem b16_0 {xs : Nat → Int32} {xl : Nat} {I J : w_I} {b : Bool} {Q : Option Value → w_I → w_I → Bool → Prop} {a1 a2 : Int} (k : w_C xs xl 15 [.ref 20, w_i a1] I J b (fun v Ic Jc bc => w_T xs xl 16 5 [some (.ref 20), some (w_i a1), some (w_i a2)] [] (w_pv v []) Ic Jc bc Q)) : w_T xs xl 16 0 [some (.ref 20), some (w_i a1), some (w_i a2)] [] [] I J b Q := by
  refine w_aload_n (q := 1) rfl rfl rfl ?_
  refine w_iload_n (q := 2) rfl rfl rfl ?_
  refine w_callv (q := 5) rfl rfl rfl rfl rfl rfl ?_
  exact k
theorem b16_5 {xs : Nat → Int32} {xl : Nat} {I J : w_I} {b : Bool} {Q : Option Value → w_I → w_I → Bool → Prop} {l1 l2 : Int} (k : ((0 ≤ l1 ∧ l1 < 30) ∧ ((0 ≤ l2 ∧ l2 < 24) ∧ Q none (w_U (w_U I 28 l1 l2) 30 l2 l1) J b))) : w_T xs xl 16 5 [some (.ref 20), some (w_i l1), some (w_i l2)] [] [] I J b Q := by
  refine w_aload_n (q := 6) rfl rfl rfl ?_
  refine w_gfr (q := 9) rfl rfl rfl rfl (j := 28) rfl ?_
  refine w_iload_n (q := 10) rfl rfl rfl ?_
  refine w_iload_n (q := 11) rfl rfl rfl ?_
  obtain ⟨h1, k⟩ := k
  refine w_iast (q := 12) (n := 30) rfl rfl rfl rfl rfl h1 ?_
  refine w_aload_n (q := 13) rfl rfl rfl ?_
  refine w_gfr (q := 16) rfl rfl rfl rfl (j := 30) rfl ?_
  refine w_iload_n (q := 17) rfl rfl rfl ?_
  refine w_iload_n (q := 18) rfl rfl rfl ?_
  obtain ⟨h2, k⟩ := k
  refine w_iast (q := 19) (n := 24) rfl rfl rfl rfl rfl h2 ?_
  exact w_vret rfl k
theorem e17 {xs : Nat → Int32} {xl : Nat} {I J : w_I} {b : Bool} {Q : Option Value → w_I → w_I → Bool → Prop} {a1 a2 : Int} (t : w_T xs xl 17 0 [some (.ref 20), some (w_i a1), some (w_i a2), none] [] [] I J b Q) : w_C xs xl 17 [.ref 20, w_i a1, w_i a2] I J b Q := w_en rfl t
theorem b17_0 {xs : Nat → Int32} {xl : Nat} {I J : w_I} {b : Bool} {Q : Option Value → w_I → w_I → Bool → Prop} {a1 a2 : Int} (k : w_T xs xl 17 2 [some (.ref 20), some (w_i a1), some (w_i a2), some (w_i 0)] [] [] I J b Q) : w_T xs xl 17 0 [some (.ref 20), some (w_i a1), some (w_i a2), none] [] [] I J b Q := by
  refine w_iconst (q := 1) rfl rfl ?_
  refine w_istore_n (q := 2) (L' := [some (.ref 20), some (w_i a1), some (w_i a2), some (w_i 0)]) (M' := []) rfl rfl rfl rfl rfl ?_
  exact k
theorem b17_2 {xs : Nat → Int32} {xl : Nat} {I J : w_I} {b : Bool} {Q : Option Value → w_I → w_I → Bool → Prop} {l1 l2 l3 : Int} (k : ((-2147483648 ≤ l3 ∧ l3 < 2147483648) ∧ (-2147483648 ≤ I 20 13 ∧ I 20 13 < 2147483648) ∧ ((I 20 13 ≤ l3 → Q none I J b) ∧ (¬ I 20 13 ≤ l3 → ((0 ≤ l3 ∧ l3 < 60) ∧ ((-2147483648 ≤ I 25 l3 ∧ I 25 l3 < 2147483648) ∧ (-2147483648 ≤ l2 ∧ l2 < 2147483648) ∧ ((¬ I 25 l3 = l2 → w_T xs xl 17 2 [some (.ref 20), some (w_i l1), some (w_i l2), some (w_i (l3 + 1))] [] [] I J b Q) ∧ (I 25 l3 = l2 → w_C xs xl 14 [.ref 20, w_i l3] I J b (fun v Ic Jc bc => w_T xs xl 17 25 [some (.ref 20), some (w_i l1), some (w_i l2), some (w_i l3)] [] (w_pv v []) Ic Jc bc Q))))))))) : w_T xs xl 17 2 [some (.ref 20), some (w_i l1), some (w_i l2), some (w_i l3)] [] [] I J b Q := by
  refine w_iload_n (q := 3) rfl rfl rfl ?_
  refine w_aload_n (q := 4) rfl rfl rfl ?_
  refine w_gfi (q := 7) (k' := 13) (v := I 20 13) rfl rfl rfl rfl rfl rfl rfl ?_
  obtain ⟨h1, h2, k⟩ := k
  refine w_cge (t := 37) (q := 10) rfl rfl rfl h1 h2 (fun c3 => ?_) (fun c3 => ?_)
  · replace k := k.1 c3
    exact w_vret rfl k
  · replace k := k.2 c3
    refine w_aload_n (q := 11) rfl rfl rfl ?_
    refine w_gfr (q := 14) rfl rfl rfl rfl (j := 25) rfl ?_
    refine w_iload_n (q := 15) rfl rfl rfl ?_
    obtain ⟨h4, k⟩ := k
    refine w_iald (q := 16) (n := 60) (v := I 25 l3) rfl rfl rfl rfl rfl rfl h4 ?_
    refine w_iload_n (q := 17) rfl rfl rfl ?_
    obtain ⟨h5, h6, k⟩ := k
    refine w_cne (t := 31) (q := 20) rfl rfl rfl h5 h6 (fun c7 => ?_) (fun c7 => ?_)
    · replace k := k.1 c7
      refine w_iinc (q := 34) (L' := [some (.ref 20), some (w_i l1), some (w_i l2), some (w_i (l3 + 1))]) (M' := []) rfl rfl rfl rfl rfl rfl ?_
      refine w_goto (t := 2) rfl rfl ?_
      exact k
    · replace k := k.2 c7
      refine w_aload_n (q := 21) rfl rfl rfl ?_
      refine w_iload_n (q := 22) rfl rfl rfl ?_
      refine w_callv (q := 25) rfl rfl rfl rfl rfl rfl ?_
      exact k
theorem b17_25 {xs : Nat → Int32} {xl : Nat} {I J : w_I} {b : Bool} {Q : Option Value → w_I → w_I → Bool → Prop} {l1 l2 l3 : Int} (k : w_C xs xl 13 [.ref 20, w_i l3, w_i l1] I J b (fun v Ic Jc bc => w_T xs xl 17 31 [some (.ref 20), some (w_i l1), some (w_i l2), some (w_i l3)] [] (w_pv v []) Ic Jc bc Q)) : w_T xs xl 17 25 [some (.ref 20), some (w_i l1), some (w_i l2), some (w_i l3)] [] [] I J b Q := by
  refine w_aload_n (q := 26) rfl rfl rfl ?_
  refine w_iload_n (q := 27) rfl rfl rfl ?_
  refine w_iload_n (q := 28) rfl rfl rfl ?_
  refine w_callv (q := 31) rfl rfl rfl rfl rfl rfl ?_
  exact k
theorem b17_31 {xs : Nat → Int32} {xl : Nat} {I J : w_I} {b : Bool} {Q : Option Value → w_I → w_I → Bool → Prop} {l1 l2 l3 : Int} (k : w_T xs xl 17 2 [some (.ref 20), some (w_i l1), some (w_i l2), some (w_i (l3 + 1))] [] [] I J b Q) : w_T xs xl 17 31 [some (.ref 20), some (w_i l1), some (w_i l2), some (w_i l3)] [] [] I J b Q := by
  refine w_iinc (q := 34) (L' := [some (.ref 20), some (w_i l1), some (w_i l2), some (w_i (l3 + 1))]) (M' := []) rfl rfl rfl rfl rfl rfl ?_
  refine w_goto (t := 2) rfl rfl ?_
  exact k
theorem e18 {xs : Nat → Int32} {xl : Nat} {I J : w_I} {b : Bool} {Q : Option Value → w_I → w_I → Bool → Prop} {a1 : Int} (t : w_T xs xl 18 0 [some (.ref 20), some (w_i a1), none] [] [] I J b Q) : w_C xs xl 18 [.ref 20, w_i a1] I J b Q := w_en rfl t
theorem b18_0 {xs : Nat → Int32} {xl : Nat} {I J : w_I} {b : Bool} {Q : Option Value → w_I → w_I → Bool → Prop} {a1 : Int} (k : w_T xs xl 18 2 [some (.ref 20), some (w_i a1), some (w_i 0)] [] [] I J b Q) : w_T xs xl 18 0 [some (.ref 20), some (w_i a1), none] [] [] I J b Q := by
  refine w_iconst (q := 1) rfl rfl ?_
  refine w_istore_n (q := 2) (L' := [some (.ref 20), some (w_i a1), some (w_i 0)]) (M' := []) rfl rfl rfl rfl rfl ?_
  exact k
theorem b18_2 {xs : Nat → Int32} {xl : Nat} {I J : w_I} {b : Bool} {Q : Option Value → w_I → w_I → Bool → Prop} {l1 l2 : Int} (k : ((-2147483648 ≤ l2 ∧ l2 < 2147483648) ∧ (-2147483648 ≤ I 20 13 ∧ I 20 13 < 2147483648) ∧ ((I 20 13 ≤ l2 → Q (some (w_i (-1))) I J b) ∧ (¬ I 20 13 ≤ l2 → ((0 ≤ l2 ∧ l2 < 60) ∧ ((-2147483648 ≤ I 25 l2 ∧ I 25 l2 < 2147483648) ∧ (-2147483648 ≤ l1 ∧ l1 < 2147483648) ∧ ((¬ I 25 l2 = l1 → w_T xs xl 18 2 [some (.ref 20), some (w_i l1), some (w_i (l2 + 1))] [] [] I J b Q) ∧ (I 25 l2 = l1 → Q (some (w_i l2)) I J b)))))))) : w_T xs xl 18 2 [some (.ref 20), some (w_i l1), some (w_i l2)] [] [] I J b Q := by
  refine w_iload_n (q := 3) rfl rfl rfl ?_
  refine w_aload_n (q := 4) rfl rfl rfl ?_
  refine w_gfi (q := 7) (k' := 13) (v := I 20 13) rfl rfl rfl rfl rfl rfl rfl ?_
  obtain ⟨h1, h2, k⟩ := k
  refine w_cge (t := 28) (q := 10) rfl rfl rfl h1 h2 (fun c3 => ?_) (fun c3 => ?_)
  · replace k := k.1 c3
    refine w_iconst (q := 29) rfl rfl ?_
    exact w_iret rfl rfl k
  · replace k := k.2 c3
    refine w_aload_n (q := 11) rfl rfl rfl ?_
    refine w_gfr (q := 14) rfl rfl rfl rfl (j := 25) rfl ?_
    refine w_iload_n (q := 15) rfl rfl rfl ?_
    obtain ⟨h4, k⟩ := k
    refine w_iald (q := 16) (n := 60) (v := I 25 l2) rfl rfl rfl rfl rfl rfl h4 ?_
    refine w_iload_n (q := 17) rfl rfl rfl ?_
    obtain ⟨h5, h6, k⟩ := k
    refine w_cne (t := 22) (q := 20) rfl rfl rfl h5 h6 (fun c7 => ?_) (fun c7 => ?_)
    · replace k := k.1 c7
      refine w_iinc (q := 25) (L' := [some (.ref 20), some (w_i l1), some (w_i (l2 + 1))]) (M' := []) rfl rfl rfl rfl rfl rfl ?_
      refine w_goto (t := 2) rfl rfl ?_
      exact k
    · replace k := k.2 c7
      refine w_iload_n (q := 21) rfl rfl rfl ?_
      exact w_iret rfl rfl k
theorem e19 {xs : Nat → Int32} {xl : Nat} {I J : w_I} {b : Bool} {Q : Option Value → w_I → w_I → Bool → Prop} {a1 a2 a3 : Int} (t : w_T xs xl 19 0 [some (.ref 20), some (w_i a1), some (w_i a2), some (w_i a3), none] [] [] I J b Q) : w_C xs xl 19 [.ref 20, w_i a1, w_i a2, w_i a3] I J b Q := w_en rfl t
theorem b19_0 {xs : Nat → Int32} {xl : Nat} {I J : w_I} {b : Bool} {Q : Option Value → w_I → w_I → Bool → Prop} {a1 a2 a3 : Int} (k : ((0 ≤ I 20 16 ∧ I 20 16 < 40) ∧ Q (some (w_i (I 20 16))) (w_U (w_U (w_U (w_U I 31 (I 20 16) a1) 32 (I 20 16) a2) 33 (I 20 16) a3) 20 16 (I 20 16 + 1)) J b)) : w_T xs xl 19 0 [some (.ref 20), some (w_i a1), some (w_i a2), some (w_i a3), none] [] [] I J b Q := by
  refine w_aload_n (q := 1) rfl rfl rfl ?_
  refine w_gfi (q := 4) (k' := 16) (v := I 20 16) rfl rfl rfl rfl rfl rfl rfl ?_
  refine w_istore (q := 6) (L' := [some (.ref 20), some (w_i a1), some (w_i a2), some (w_i a3), some (w_i (I 20 16))]) (M' := []) rfl rfl rfl rfl rfl ?_
  refine w_aload_n (q := 7) rfl rfl rfl ?_
  refine w_gfr (q := 10) rfl rfl rfl rfl (j := 31) rfl ?_
  refine w_iload (q := 12) rfl rfl rfl ?_
  refine w_iload_n (q := 13) rfl rfl rfl ?_
  obtain ⟨h1, k⟩ := k
  refine w_iast (q := 14) (n := 40) rfl rfl rfl rfl rfl h1 ?_
  refine w_aload_n (q := 15) rfl rfl rfl ?_
  refine w_gfr (q := 18) rfl rfl rfl rfl (j := 32) rfl ?_
  refine w_iload (q := 20) rfl rfl rfl ?_
  refine w_iload_n (q := 21) rfl rfl rfl ?_
  refine w_iast (q := 22) (n := 40) rfl rfl rfl rfl rfl h1 ?_
  refine w_aload_n (q := 23) rfl rfl rfl ?_
  refine w_gfr (q := 26) rfl rfl rfl rfl (j := 33) rfl ?_
  refine w_iload (q := 28) rfl rfl rfl ?_
  refine w_iload_n (q := 29) rfl rfl rfl ?_
  refine w_iast (q := 30) (n := 40) rfl rfl rfl rfl rfl h1 ?_
  refine w_aload_n (q := 31) rfl rfl rfl ?_
  refine w_dup (q := 32) rfl rfl rfl ?_
  refine w_gfi (q := 35) (k' := 16) (v := I 20 16) rfl rfl rfl rfl rfl rfl rfl ?_
  refine w_iconst (q := 36) rfl rfl ?_
  refine w_iadd (q := 37) rfl rfl ?_
  refine w_pfi (q := 40) (k' := 16) rfl rfl rfl rfl ?_
  refine w_iload (q := 42) rfl rfl rfl ?_
  exact w_iret rfl rfl k
theorem e21 {xs : Nat → Int32} {xl : Nat} {I J : w_I} {b : Bool} {Q : Option Value → w_I → w_I → Bool → Prop} (t : w_T xs xl 21 0 [some (.ref 78)] [] [] I J b Q) : w_C xs xl 21 [.ref 78] I J b Q := w_en rfl t
theorem b21_0 {xs : Nat → Int32} {xl : Nat} {I J : w_I} {b : Bool} {Q : Option Value → w_I → w_I → Bool → Prop} (k : w_C xs xl 22 [.ref 78, w_i (I 2 10), w_i 0, w_i (I 2 6)] I J b (fun v Ic Jc bc => w_T xs xl 21 19 [some (.ref 78)] [] (w_pv v []) Ic Jc bc Q)) : w_T xs xl 21 0 [some (.ref 78)] [] [] I J b Q := by
  refine w_aload_n (q := 1) rfl rfl rfl ?_
  refine w_aload_n (q := 2) rfl rfl rfl ?_
  refine w_gfr (q := 5) rfl rfl rfl rfl (j := 2) rfl ?_
  refine w_gfi (q := 8) (k' := 10) (v := I 2 10) rfl rfl rfl rfl rfl rfl rfl ?_
  refine w_iconst (q := 9) rfl rfl ?_
  refine w_aload_n (q := 10) rfl rfl rfl ?_
  refine w_gfr (q := 13) rfl rfl rfl rfl (j := 2) rfl ?_
  refine w_gfi (q := 16) (k' := 6) (v := I 2 6) rfl rfl rfl rfl rfl rfl rfl ?_
  refine w_callv (q := 19) rfl rfl rfl rfl rfl rfl ?_
  exact k
theorem b21_19 {xs : Nat → Int32} {xl : Nat} {I J : w_I} {b : Bool} {Q : Option Value → w_I → w_I → Bool → Prop} (k : Q none I J b) : w_T xs xl 21 19 [some (.ref 78)] [] [] I J b Q := by
  exact w_vret rfl k
theorem e22 {xs : Nat → Int32} {xl : Nat} {I J : w_I} {b : Bool} {Q : Option Value → w_I → w_I → Bool → Prop} {a1 a2 a3 : Int} (t : w_T xs xl 22 0 [some (.ref 78), some (w_i a1), some (w_i a2), some (w_i a3), none, none, none] [] [] I J b Q) : w_C xs xl 22 [.ref 78, w_i a1, w_i a2, w_i a3] I J b Q := w_en rfl t
theorem b22_0 {xs : Nat → Int32} {xl : Nat} {I J : w_I} {b : Bool} {Q : Option Value → w_I → w_I → Bool → Prop} {a1 a2 a3 : Int} (k : w_C xs xl 295 [.ref 82, w_i 0] I J b (fun v Ic Jc bc => w_T xs xl 22 8 [some (.ref 78), some (w_i a1), some (w_i a2), some (w_i a3), none, none, none] [] (w_pv v []) Ic Jc bc Q)) : w_T xs xl 22 0 [some (.ref 78), some (w_i a1), some (w_i a2), some (w_i a3), none, none, none] [] [] I J b Q := by
  refine w_aload_n (q := 1) rfl rfl rfl ?_
  refine w_gfr (q := 4) rfl rfl rfl rfl (j := 82) rfl ?_
  refine w_iconst (q := 5) rfl rfl ?_
  refine w_call (q := 8) rfl rfl rfl rfl rfl ?_
  exact k
theorem b22_8 {xs : Nat → Int32} {xl : Nat} {I J : w_I} {b : Bool} {Q : Option Value → w_I → w_I → Bool → Prop} {l1 l2 l3 : Int} {u4 u5 u6 : Option Value} (k : w_T xs xl 22 11 [some (.ref 78), some (w_i l1), some (w_i l2), some (w_i l3), some (w_i 0), u5, u6] [] [] I J b Q) : w_T xs xl 22 8 [some (.ref 78), some (w_i l1), some (w_i l2), some (w_i l3), u4, u5, u6] [] [] I J b Q := by
  refine w_iconst (q := 9) rfl rfl ?_
  refine w_istore (q := 11) (L' := [some (.ref 78), some (w_i l1), some (w_i l2), some (w_i l3), some (w_i 0), u5, u6]) (M' := []) rfl rfl rfl rfl rfl ?_
  exact k
theorem b22_11 {xs : Nat → Int32} {xl : Nat} {I J : w_I} {b : Bool} {Q : Option Value → w_I → w_I → Bool → Prop} {l1 l2 l3 l4 : Int} {u5 u6 : Option Value} (k : ((-2147483648 ≤ l4 ∧ l4 < 2147483648) ∧ (-2147483648 ≤ I 20 13 ∧ I 20 13 < 2147483648) ∧ ((I 20 13 ≤ l4 → w_T xs xl 22 98 [some (.ref 78), some (w_i l1), some (w_i l2), some (w_i l3), some (w_i 0), u5, u6] [] [] I J b Q) ∧ (¬ I 20 13 ≤ l4 → ((0 ≤ l4 ∧ l4 < 60) ∧ ((-2147483648 ≤ I 25 l4 ∧ I 25 l4 < 2147483648) ∧ ((I 25 l4 = (-1) → w_T xs xl 22 11 [some (.ref 78), some (w_i l1), some (w_i l2), some (w_i l3), some (w_i (l4 + 1)), some (w_i (I 25 l4)), u6] [] [] I J b Q) ∧ (¬ I 25 l4 = (-1) → w_C xs xl 11 [.ref 20, w_i l4, w_i l2] I J b (fun v Ic Jc bc => w_T xs xl 22 51 [some (.ref 78), some (w_i l1), some (w_i l2), some (w_i l3), some (w_i l4), some (w_i (I 25 l4)), u6] [] (w_pv v []) Ic Jc bc Q))))))))) : w_T xs xl 22 11 [some (.ref 78), some (w_i l1), some (w_i l2), some (w_i l3), some (w_i l4), u5, u6] [] [] I J b Q := by
  refine w_iload (q := 13) rfl rfl rfl ?_
  refine w_aload_n (q := 14) rfl rfl rfl ?_
  refine w_gfr (q := 17) rfl rfl rfl rfl (j := 20) rfl ?_
  refine w_gfi (q := 20) (k' := 13) (v := I 20 13) rfl rfl rfl rfl rfl rfl rfl ?_
  obtain ⟨h1, h2, k⟩ := k
  refine w_cge (t := 95) (q := 23) rfl rfl rfl h1 h2 (fun c3 => ?_) (fun c3 => ?_)
  · replace k := k.1 c3
    refine w_iconst (q := 96) rfl rfl ?_
    refine w_istore (q := 98) (L' := [some (.ref 78), some (w_i l1), some (w_i l2), some (w_i l3), some (w_i 0), u5, u6]) (M' := []) rfl rfl rfl rfl rfl ?_
    exact k
  · replace k := k.2 c3
    refine w_aload_n (q := 24) rfl rfl rfl ?_
    refine w_gfr (q := 27) rfl rfl rfl rfl (j := 20) rfl ?_
    refine w_gfr (q := 30) rfl rfl rfl rfl (j := 25) rfl ?_
    refine w_iload (q := 32) rfl rfl rfl ?_
    obtain ⟨h4, k⟩ := k
    refine w_iald (q := 33) (n := 60) (v := I 25 l4) rfl rfl rfl rfl rfl rfl h4 ?_
    refine w_istore (q := 35) (L' := [some (.ref 78), some (w_i l1), some (w_i l2), some (w_i l3), some (w_i l4), some (w_i (I 25 l4)), u6]) (M' := []) rfl rfl rfl rfl rfl ?_
    refine w_iload (q := 37) rfl rfl rfl ?_
    refine w_iconst (q := 38) rfl rfl ?_
    obtain ⟨h5, k⟩ := k
    refine w_ceq (t := 89) (q := 41) rfl rfl rfl h5 (by decide) (fun c6 => ?_) (fun c6 => ?_)
    · replace k := k.1 c6
      refine w_iinc (q := 92) (L' := [some (.ref 78), some (w_i l1), some (w_i l2), some (w_i l3), some (w_i (l4 + 1)), some (w_i (I 25 l4)), u6]) (M' := []) rfl rfl rfl rfl rfl rfl ?_
      refine w_goto (t := 11) rfl rfl ?_
      exact k
    · replace k := k.2 c6
      refine w_aload_n (q := 42) rfl rfl rfl ?_
      refine w_gfr (q := 45) rfl rfl rfl rfl (j := 20) rfl ?_
      refine w_iload (q := 47) rfl rfl rfl ?_
      refine w_iload_n (q := 48) rfl rfl rfl ?_
      refine w_callv (q := 51) rfl rfl rfl rfl rfl rfl ?_
      exact k
theorem b22_98 {xs : Nat → Int32} {xl : Nat} {I J : w_I} {b : Bool} {Q : Option Value → w_I → w_I → Bool → Prop} {l1 l3 l4 : Int} {u2 u5 u6 : Option Value} (k : ((-2147483648 ≤ l4 ∧ l4 < 2147483648) ∧ (-2147483648 ≤ I 20 14 ∧ I 20 14 < 2147483648) ∧ ((I 20 14 ≤ l4 → Q none I J b) ∧ (¬ I 20 14 ≤ l4 → ((-2147483648 ≤ l1 ∧ l1 < 2147483648) ∧ ((l1 = 0 → ((-2147483648 ≤ l3 ∧ l3 < 2147483648) ∧ ((l3 ≤ 0 → ((0 ≤ l4 ∧ l4 < 30) ∧ w_T xs xl 22 98 [some (.ref 78), some (w_i l1), u2, some (w_i l3), some (w_i (l4 + 1)), u5, u6] [] [] (w_U I 83 l4 0) J b Q)) ∧ (¬ l3 ≤ 0 → ((0 ≤ l4 ∧ l4 < 30) ∧ (((0 : Int) ≤ I 82 l4 ∧ I 82 l4 < 2147483648 ∧ (0 : Int) < l3 ∧ l3 < (2147483648 : Int)) ∧ w_T xs xl 22 98 [some (.ref 78), some (w_i l1), u2, some (w_i l3), some (w_i (l4 + 1)), u5, u6] [] [] (w_U I 83 l4 (I 82 l4 / l3)) J b Q)))))) ∧ (¬ l1 = 0 → ((0 ≤ l4 ∧ l4 < 30) ∧ ((-2147483648 ≤ I 26 l4 ∧ I 26 l4 < 2147483648) ∧ ((I 26 l4 ≤ 0 → ((-2147483648 ≤ l3 ∧ l3 < 2147483648) ∧ ((l3 ≤ 0 → w_T xs xl 22 98 [some (.ref 78), some (w_i l1), u2, some (w_i l3), some (w_i (l4 + 1)), u5, u6] [] [] (w_U I 83 l4 0) J b Q) ∧ (¬ l3 ≤ 0 → (((0 : Int) ≤ I 82 l4 ∧ I 82 l4 < 2147483648 ∧ (0 : Int) < l3 ∧ l3 < (2147483648 : Int)) ∧ w_T xs xl 22 98 [some (.ref 78), some (w_i l1), u2, some (w_i l3), some (w_i (l4 + 1)), u5, u6] [] [] (w_U I 83 l4 (I 82 l4 / l3)) J b Q))))) ∧ (¬ I 26 l4 ≤ 0 → (((0 : Int) ≤ I 82 l4 ∧ I 82 l4 < 2147483648 ∧ (0 : Int) < I 26 l4 ∧ I 26 l4 < (2147483648 : Int)) ∧ ((-2147483648 ≤ l3 ∧ l3 < 2147483648) ∧ ((l3 ≤ 0 → w_T xs xl 22 98 [some (.ref 78), some (w_i l1), u2, some (w_i l3), some (w_i (l4 + 1)), u5, u6] [] [] (w_U (w_U I 82 l4 (I 82 l4 / I 26 l4)) 83 l4 0) J b Q) ∧ (¬ l3 ≤ 0 → (((0 : Int) ≤ I 82 l4 / I 26 l4 ∧ I 82 l4 / I 26 l4 < 2147483648 ∧ (0 : Int) < l3 ∧ l3 < (2147483648 : Int)) ∧ w_T xs xl 22 98 [some (.ref 78), some (w_i l1), u2, some (w_i l3), some (w_i (l4 + 1)), u5, u6] [] [] (w_U (w_U I 82 l4 (I 82 l4 / I 26 l4)) 83 l4 (I 82 l4 / I 26 l4 / l3)) J b Q)))))))))))))))) : w_T xs xl 22 98 [some (.ref 78), some (w_i l1), u2, some (w_i l3), some (w_i l4), u5, u6] [] [] I J b Q := by
  refine w_iload (q := 100) rfl rfl rfl ?_
  refine w_aload_n (q := 101) rfl rfl rfl ?_
  refine w_gfr (q := 104) rfl rfl rfl rfl (j := 20) rfl ?_
  refine w_gfi (q := 107) (k' := 14) (v := I 20 14) rfl rfl rfl rfl rfl rfl rfl ?_
  obtain ⟨h1, h2, k⟩ := k
  refine w_cge (t := 177) (q := 110) rfl rfl rfl h1 h2 (fun c3 => ?_) (fun c3 => ?_)
  · replace k := k.1 c3
    exact w_vret rfl k
  · replace k := k.2 c3
    refine w_iload_n (q := 111) rfl rfl rfl ?_
    obtain ⟨h4, k⟩ := k
    refine w_zeq (t := 147) (q := 114) rfl rfl rfl h4 (fun c5 => ?_) (fun c5 => ?_)
    · replace k := k.1 c5
      refine w_aload_n (q := 148) rfl rfl rfl ?_
      refine w_gfr (q := 151) rfl rfl rfl rfl (j := 83) rfl ?_
      refine w_iload (q := 153) rfl rfl rfl ?_
      refine w_iload_n (q := 154) rfl rfl rfl ?_
      obtain ⟨h6, k⟩ := k
      refine w_zle (t := 169) (q := 157) rfl rfl rfl h6 (fun c7 => ?_) (fun c7 => ?_)
      · replace k := k.1 c7
        refine w_iconst (q := 170) rfl rfl ?_
        obtain ⟨h8, k⟩ := k
        refine w_iast (q := 171) (n := 30) rfl rfl rfl rfl rfl h8 ?_
        refine w_iinc (q := 174) (L' := [some (.ref 78), some (w_i l1), u2, some (w_i l3), some (w_i (l4 + 1)), u5, u6]) (M' := []) rfl rfl rfl rfl rfl rfl ?_
        refine w_goto (t := 98) rfl rfl ?_
        exact k
      · replace k := k.2 c7
        refine w_aload_n (q := 158) rfl rfl rfl ?_
        refine w_gfr (q := 161) rfl rfl rfl rfl (j := 82) rfl ?_
        refine w_iload (q := 163) rfl rfl rfl ?_
        obtain ⟨h9, k⟩ := k
        refine w_iald (q := 164) (n := 30) (v := I 82 l4) rfl rfl rfl rfl rfl rfl h9 ?_
        refine w_iload_n (q := 165) rfl rfl rfl ?_
        obtain ⟨h10, k⟩ := k
        refine w_idiv (q := 166) rfl rfl h10 ?_
        refine w_goto (t := 170) rfl rfl ?_
        refine w_iast (q := 171) (n := 30) rfl rfl rfl rfl rfl h9 ?_
        refine w_iinc (q := 174) (L' := [some (.ref 78), some (w_i l1), u2, some (w_i l3), some (w_i (l4 + 1)), u5, u6]) (M' := []) rfl rfl rfl rfl rfl rfl ?_
        refine w_goto (t := 98) rfl rfl ?_
        exact k
    · replace k := k.2 c5
      refine w_aload_n (q := 115) rfl rfl rfl ?_
      refine w_gfr (q := 118) rfl rfl rfl rfl (j := 20) rfl ?_
      refine w_gfr (q := 121) rfl rfl rfl rfl (j := 26) rfl ?_
      refine w_iload (q := 123) rfl rfl rfl ?_
      obtain ⟨h11, k⟩ := k
      refine w_iald (q := 124) (n := 30) (v := I 26 l4) rfl rfl rfl rfl rfl rfl h11 ?_
      obtain ⟨h12, k⟩ := k
      refine w_zle (t := 147) (q := 127) rfl rfl rfl h12 (fun c13 => ?_) (fun c13 => ?_)
      · replace k := k.1 c13
        refine w_aload_n (q := 148) rfl rfl rfl ?_
        refine w_gfr (q := 151) rfl rfl rfl rfl (j := 83) rfl ?_
        refine w_iload (q := 153) rfl rfl rfl ?_
        refine w_iload_n (q := 154) rfl rfl rfl ?_
        obtain ⟨h14, k⟩ := k
        refine w_zle (t := 169) (q := 157) rfl rfl rfl h14 (fun c15 => ?_) (fun c15 => ?_)
        · replace k := k.1 c15
          refine w_iconst (q := 170) rfl rfl ?_
          refine w_iast (q := 171) (n := 30) rfl rfl rfl rfl rfl h11 ?_
          refine w_iinc (q := 174) (L' := [some (.ref 78), some (w_i l1), u2, some (w_i l3), some (w_i (l4 + 1)), u5, u6]) (M' := []) rfl rfl rfl rfl rfl rfl ?_
          refine w_goto (t := 98) rfl rfl ?_
          exact k
        · replace k := k.2 c15
          refine w_aload_n (q := 158) rfl rfl rfl ?_
          refine w_gfr (q := 161) rfl rfl rfl rfl (j := 82) rfl ?_
          refine w_iload (q := 163) rfl rfl rfl ?_
          refine w_iald (q := 164) (n := 30) (v := I 82 l4) rfl rfl rfl rfl rfl rfl h11 ?_
          refine w_iload_n (q := 165) rfl rfl rfl ?_
          obtain ⟨h16, k⟩ := k
          refine w_idiv (q := 166) rfl rfl h16 ?_
          refine w_goto (t := 170) rfl rfl ?_
          refine w_iast (q := 171) (n := 30) rfl rfl rfl rfl rfl h11 ?_
          refine w_iinc (q := 174) (L' := [some (.ref 78), some (w_i l1), u2, some (w_i l3), some (w_i (l4 + 1)), u5, u6]) (M' := []) rfl rfl rfl rfl rfl rfl ?_
          refine w_goto (t := 98) rfl rfl ?_
          exact k
      · replace k := k.2 c13
        refine w_aload_n (q := 128) rfl rfl rfl ?_
        refine w_gfr (q := 131) rfl rfl rfl rfl (j := 82) rfl ?_
        refine w_iload (q := 133) rfl rfl rfl ?_
        refine w_dup2 (q := 134) rfl rfl rfl rfl ?_
        refine w_iald (q := 135) (n := 30) (v := I 82 l4) rfl rfl rfl rfl rfl rfl h11 ?_
        refine w_aload_n (q := 136) rfl rfl rfl ?_
        refine w_gfr (q := 139) rfl rfl rfl rfl (j := 20) rfl ?_
        refine w_gfr (q := 142) rfl rfl rfl rfl (j := 26) rfl ?_
        refine w_iload (q := 144) rfl rfl rfl ?_
        refine w_iald (q := 145) (n := 30) (v := I 26 l4) rfl rfl rfl rfl rfl rfl h11 ?_
        obtain ⟨h17, k⟩ := k
        refine w_idiv (q := 146) rfl rfl h17 ?_
        refine w_iast (q := 147) (n := 30) rfl rfl rfl rfl rfl h11 ?_
        refine w_aload_n (q := 148) rfl rfl rfl ?_
        refine w_gfr (q := 151) rfl rfl rfl rfl (j := 83) rfl ?_
        refine w_iload (q := 153) rfl rfl rfl ?_
        refine w_iload_n (q := 154) rfl rfl rfl ?_
        obtain ⟨h18, k⟩ := k
        refine w_zle (t := 169) (q := 157) rfl rfl rfl h18 (fun c19 => ?_) (fun c19 => ?_)
        · replace k := k.1 c19
          refine w_iconst (q := 170) rfl rfl ?_
          refine w_iast (q := 171) (n := 30) rfl rfl rfl rfl rfl h11 ?_
          refine w_iinc (q := 174) (L' := [some (.ref 78), some (w_i l1), u2, some (w_i l3), some (w_i (l4 + 1)), u5, u6]) (M' := []) rfl rfl rfl rfl rfl rfl ?_
          refine w_goto (t := 98) rfl rfl ?_
          exact k
        · replace k := k.2 c19
          refine w_aload_n (q := 158) rfl rfl rfl ?_
          refine w_gfr (q := 161) rfl rfl rfl rfl (j := 82) rfl ?_
          refine w_iload (q := 163) rfl rfl rfl ?_
          refine w_iald (q := 164) (n := 30) (v := I 82 l4 / I 26 l4) rfl rfl rfl rfl rfl (by simp only [w_Ug, w_cpg, reduceIte, Nat.reduceEqDiff, Int.reduceEq, Int.reduceNeg, eq_self]) h11 ?_
          refine w_iload_n (q := 165) rfl rfl rfl ?_
          obtain ⟨h20, k⟩ := k
          refine w_idiv (q := 166) rfl rfl h20 ?_
          refine w_goto (t := 170) rfl rfl ?_
          refine w_iast (q := 171) (n := 30) rfl rfl rfl rfl rfl h11 ?_
          refine w_iinc (q := 174) (L' := [some (.ref 78), some (w_i l1), u2, some (w_i l3), some (w_i (l4 + 1)), u5, u6]) (M' := []) rfl rfl rfl rfl rfl rfl ?_
          refine w_goto (t := 98) rfl rfl ?_
          exact k
theorem b22_51 {xs : Nat → Int32} {xl : Nat} {I J : w_I} {b : Bool} {Q : Option Value → w_I → w_I → Bool → Prop} {l1 l2 l3 l4 l5 s0 : Int} {u6 : Option Value} (k : ((-2147483648 ≤ l1 ∧ l1 < 2147483648) ∧ ((l1 = 0 → ((0 ≤ l5 ∧ l5 < 30) ∧ ((-2147483648 ≤ I 82 l5 ∧ I 82 l5 < 2147483648) ∧ (-2147483648 ≤ s0 ∧ s0 < 2147483648) ∧ w_T xs xl 22 11 [some (.ref 78), some (w_i l1), some (w_i l2), some (w_i l3), some (w_i (l4 + 1)), some (w_i l5), some (w_i s0)] [] [] (w_U I 82 l5 (max (I 82 l5) s0)) J b Q))) ∧ (¬ l1 = 0 → ((0 ≤ l5 ∧ l5 < 30) ∧ w_T xs xl 22 11 [some (.ref 78), some (w_i l1), some (w_i l2), some (w_i l3), some (w_i (l4 + 1)), some (w_i l5), some (w_i s0)] [] [] (w_U I 82 l5 (I 82 l5 + s0)) J b Q))))) : w_T xs xl 22 51 [some (.ref 78), some (w_i l1), some (w_i l2), some (w_i l3), some (w_i l4), some (w_i l5), u6] [] [w_i s0] I J b Q := by
  refine w_istore (q := 53) (L' := [some (.ref 78), some (w_i l1), some (w_i l2), some (w_i l3), some (w_i l4), some (w_i l5), some (w_i s0)]) (M' := []) rfl rfl rfl rfl rfl ?_
  refine w_aload_n (q := 54) rfl rfl rfl ?_
  refine w_gfr (q := 57) rfl rfl rfl rfl (j := 82) rfl ?_
  refine w_iload (q := 59) rfl rfl rfl ?_
  refine w_iload_n (q := 60) rfl rfl rfl ?_
  obtain ⟨h1, k⟩ := k
  refine w_zeq (t := 76) (q := 63) rfl rfl rfl h1 (fun c2 => ?_) (fun c2 => ?_)
  · replace k := k.1 c2
    refine w_aload_n (q := 77) rfl rfl rfl ?_
    refine w_gfr (q := 80) rfl rfl rfl rfl (j := 82) rfl ?_
    refine w_iload (q := 82) rfl rfl rfl ?_
    obtain ⟨h3, k⟩ := k
    refine w_iald (q := 83) (n := 30) (v := I 82 l5) rfl rfl rfl rfl rfl rfl h3 ?_
    refine w_iload (q := 85) rfl rfl rfl ?_
    obtain ⟨h4, h5, k⟩ := k
    refine w_max (q := 88) rfl rfl rfl h4 h5 ?_
    refine w_iast (q := 89) (n := 30) rfl rfl rfl rfl rfl h3 ?_
    refine w_iinc (q := 92) (L' := [some (.ref 78), some (w_i l1), some (w_i l2), some (w_i l3), some (w_i (l4 + 1)), some (w_i l5), some (w_i s0)]) (M' := []) rfl rfl rfl rfl rfl rfl ?_
    refine w_goto (t := 11) rfl rfl ?_
    exact k
  · replace k := k.2 c2
    refine w_aload_n (q := 64) rfl rfl rfl ?_
    refine w_gfr (q := 67) rfl rfl rfl rfl (j := 82) rfl ?_
    refine w_iload (q := 69) rfl rfl rfl ?_
    obtain ⟨h6, k⟩ := k
    refine w_iald (q := 70) (n := 30) (v := I 82 l5) rfl rfl rfl rfl rfl rfl h6 ?_
    refine w_iload (q := 72) rfl rfl rfl ?_
    refine w_iadd (q := 73) rfl rfl ?_
    refine w_goto (t := 88) rfl rfl ?_
    refine w_iast (q := 89) (n := 30) rfl rfl rfl rfl rfl h6 ?_
    refine w_iinc (q := 92) (L' := [some (.ref 78), some (w_i l1), some (w_i l2), some (w_i l3), some (w_i (l4 + 1)), some (w_i l5), some (w_i s0)]) (M' := []) rfl rfl rfl rfl rfl rfl ?_
    refine w_goto (t := 11) rfl rfl ?_
    exact k
theorem e23 {xs : Nat → Int32} {xl : Nat} {I J : w_I} {b : Bool} {Q : Option Value → w_I → w_I → Bool → Prop} {a1 : Int} (t : w_T xs xl 23 0 [some (.ref 78), some (w_i a1), none] [] [] I J b Q) : w_C xs xl 23 [.ref 78, w_i a1] I J b Q := w_en rfl t
theorem b23_0 {xs : Nat → Int32} {xl : Nat} {I J : w_I} {b : Bool} {Q : Option Value → w_I → w_I → Bool → Prop} {a1 : Int} (k : w_T xs xl 23 7 [some (.ref 78), some (w_i a1), some (w_i 0)] [] [] (w_U I 78 6 0) J b Q) : w_T xs xl 23 0 [some (.ref 78), some (w_i a1), none] [] [] I J b Q := by
  refine w_aload_n (q := 1) rfl rfl rfl ?_
  refine w_iconst (q := 2) rfl rfl ?_
  refine w_pfi (q := 5) (k' := 6) rfl rfl rfl rfl ?_
  refine w_iconst (q := 6) rfl rfl ?_
  refine w_istore_n (q := 7) (L' := [some (.ref 78), some (w_i a1), some (w_i 0)]) (M' := []) rfl rfl rfl rfl rfl ?_
  exact k
theorem b23_7 {xs : Nat → Int32} {xl : Nat} {I J : w_I} {b : Bool} {Q : Option Value → w_I → w_I → Bool → Prop} {l1 l2 : Int} (k : ((-2147483648 ≤ l2 ∧ l2 < 2147483648) ∧ (-2147483648 ≤ I 2 5 ∧ I 2 5 < 2147483648) ∧ ((I 2 5 ≤ l2 → ((-2147483648 ≤ l1 ∧ l1 < 2147483648) ∧ ((l1 = (-1) → Q none I J b) ∧ (¬ l1 = (-1) → w_C xs xl 24 [.ref 78, w_i l1] I J b (fun v Ic Jc bc => w_T xs xl 23 60 [some (.ref 78), some (w_i l1), some (w_i l2)] [] (w_pv v []) Ic Jc bc Q))))) ∧ (¬ I 2 5 ≤ l2 → ((0 ≤ l2 ∧ l2 < 24) ∧ ((-2147483648 ≤ I 30 l2 ∧ I 30 l2 < 2147483648) ∧ ((I 30 l2 = (-1) → w_T xs xl 23 7 [some (.ref 78), some (w_i l1), some (w_i (l2 + 1))] [] [] I J b Q) ∧ (¬ I 30 l2 = (-1) → w_C xs xl 24 [.ref 78, w_i (I 30 l2)] I J b (fun v Ic Jc bc => w_T xs xl 23 44 [some (.ref 78), some (w_i l1), some (w_i l2)] [] (w_pv v []) Ic Jc bc Q))))))))) : w_T xs xl 23 7 [some (.ref 78), some (w_i l1), some (w_i l2)] [] [] I J b Q := by
  refine w_iload_n (q := 8) rfl rfl rfl ?_
  refine w_aload_n (q := 9) rfl rfl rfl ?_
  refine w_gfr (q := 12) rfl rfl rfl rfl (j := 2) rfl ?_
  refine w_gfi (q := 15) (k' := 5) (v := I 2 5) rfl rfl rfl rfl rfl rfl rfl ?_
  obtain ⟨h1, h2, k⟩ := k
  refine w_cge (t := 50) (q := 18) rfl rfl rfl h1 h2 (fun c3 => ?_) (fun c3 => ?_)
  · replace k := k.1 c3
    refine w_iload_n (q := 51) rfl rfl rfl ?_
    refine w_iconst (q := 52) rfl rfl ?_
    obtain ⟨h4, k⟩ := k
    refine w_ceq (t := 60) (q := 55) rfl rfl rfl h4 (by decide) (fun c5 => ?_) (fun c5 => ?_)
    · replace k := k.1 c5
      exact w_vret rfl k
    · replace k := k.2 c5
      refine w_aload_n (q := 56) rfl rfl rfl ?_
      refine w_iload_n (q := 57) rfl rfl rfl ?_
      refine w_callv (q := 60) rfl rfl rfl rfl rfl rfl ?_
      exact k
  · replace k := k.2 c3
    refine w_aload_n (q := 19) rfl rfl rfl ?_
    refine w_gfr (q := 22) rfl rfl rfl rfl (j := 20) rfl ?_
    refine w_gfr (q := 25) rfl rfl rfl rfl (j := 30) rfl ?_
    refine w_iload_n (q := 26) rfl rfl rfl ?_
    obtain ⟨h6, k⟩ := k
    refine w_iald (q := 27) (n := 24) (v := I 30 l2) rfl rfl rfl rfl rfl rfl h6 ?_
    refine w_iconst (q := 28) rfl rfl ?_
    obtain ⟨h7, k⟩ := k
    refine w_ceq (t := 44) (q := 31) rfl rfl rfl h7 (by decide) (fun c8 => ?_) (fun c8 => ?_)
    · replace k := k.1 c8
      refine w_iinc (q := 47) (L' := [some (.ref 78), some (w_i l1), some (w_i (l2 + 1))]) (M' := []) rfl rfl rfl rfl rfl rfl ?_
      refine w_goto (t := 7) rfl rfl ?_
      exact k
    · replace k := k.2 c8
      refine w_aload_n (q := 32) rfl rfl rfl ?_
      refine w_aload_n (q := 33) rfl rfl rfl ?_
      refine w_gfr (q := 36) rfl rfl rfl rfl (j := 20) rfl ?_
      refine w_gfr (q := 39) rfl rfl rfl rfl (j := 30) rfl ?_
      refine w_iload_n (q := 40) rfl rfl rfl ?_
      refine w_iald (q := 41) (n := 24) (v := I 30 l2) rfl rfl rfl rfl rfl rfl h6 ?_
      refine w_callv (q := 44) rfl rfl rfl rfl rfl rfl ?_
      exact k
theorem b23_60 {xs : Nat → Int32} {xl : Nat} {I J : w_I} {b : Bool} {Q : Option Value → w_I → w_I → Bool → Prop} {u1 u2 : Option Value} (k : Q none I J b) : w_T xs xl 23 60 [some (.ref 78), u1, u2] [] [] I J b Q := by
  exact w_vret rfl k
theorem b23_44 {xs : Nat → Int32} {xl : Nat} {I J : w_I} {b : Bool} {Q : Option Value → w_I → w_I → Bool → Prop} {l1 l2 : Int} (k : w_T xs xl 23 7 [some (.ref 78), some (w_i l1), some (w_i (l2 + 1))] [] [] I J b Q) : w_T xs xl 23 44 [some (.ref 78), some (w_i l1), some (w_i l2)] [] [] I J b Q := by
  refine w_iinc (q := 47) (L' := [some (.ref 78), some (w_i l1), some (w_i (l2 + 1))]) (M' := []) rfl rfl rfl rfl rfl rfl ?_
  refine w_goto (t := 7) rfl rfl ?_
  exact k
theorem e24 {xs : Nat → Int32} {xl : Nat} {I J : w_I} {b : Bool} {Q : Option Value → w_I → w_I → Bool → Prop} {a1 : Int} (t : w_T xs xl 24 0 [some (.ref 78), some (w_i a1), none] [] [] I J b Q) : w_C xs xl 24 [.ref 78, w_i a1] I J b Q := w_en rfl t
theorem b24_0 {xs : Nat → Int32} {xl : Nat} {I J : w_I} {b : Bool} {Q : Option Value → w_I → w_I → Bool → Prop} {a1 : Int} (k : w_T xs xl 24 5 [some (.ref 78), some (w_i a1), some (w_i (I 78 6))] [] [] I J b Q) : w_T xs xl 24 0 [some (.ref 78), some (w_i a1), none] [] [] I J b Q := by
  refine w_aload_n (q := 1) rfl rfl rfl ?_
  refine w_gfi (q := 4) (k' := 6) (v := I 78 6) rfl rfl rfl rfl rfl rfl rfl ?_
  refine w_istore_n (q := 5) (L' := [some (.ref 78), some (w_i a1), some (w_i (I 78 6))]) (M' := []) rfl rfl rfl rfl rfl ?_
  exact k
theorem b24_5 {xs : Nat → Int32} {xl : Nat} {I J : w_I} {b : Bool} {Q : Option Value → w_I → w_I → Bool → Prop} {l1 l2 : Int} (k : ((-2147483648 ≤ l2 ∧ l2 < 2147483648) ∧ ((l2 ≤ 0 → ((0 ≤ l2 ∧ l2 < 25) ∧ Q none (w_U (w_U I 84 l2 l1) 78 6 (I 78 6 + 1)) J b)) ∧ (¬ l2 ≤ 0 → ((0 ≤ l2 - 1 ∧ l2 - 1 < 25) ∧ ((0 ≤ I 84 (l2 - 1) ∧ I 84 (l2 - 1) < 30) ∧ ((0 ≤ l1 ∧ l1 < 30) ∧ ((-2147483648 ≤ I 83 (I 84 (l2 - 1)) ∧ I 83 (I 84 (l2 - 1)) < 2147483648) ∧ (-2147483648 ≤ I 83 l1 ∧ I 83 l1 < 2147483648) ∧ ((I 83 (I 84 (l2 - 1)) ≤ I 83 l1 → ((0 ≤ l2 ∧ l2 < 25) ∧ Q none (w_U (w_U I 84 l2 l1) 78 6 (I 78 6 + 1)) J b)) ∧ (¬ I 83 (I 84 (l2 - 1)) ≤ I 83 l1 → ((0 ≤ l2 ∧ l2 < 25) ∧ w_T xs xl 24 5 [some (.ref 78), some (w_i l1), some (w_i (l2 + (-1)))] [] [] (w_U I 84 l2 (I 84 (l2 - 1))) J b Q))))))))))) : w_T xs xl 24 5 [some (.ref 78), some (w_i l1), some (w_i l2)] [] [] I J b Q := by
  refine w_iload_n (q := 6) rfl rfl rfl ?_
  obtain ⟨h1, k⟩ := k
  refine w_zle (t := 51) (q := 9) rfl rfl rfl h1 (fun c2 => ?_) (fun c2 => ?_)
  · replace k := k.1 c2
    refine w_aload_n (q := 52) rfl rfl rfl ?_
    refine w_gfr (q := 55) rfl rfl rfl rfl (j := 84) rfl ?_
    refine w_iload_n (q := 56) rfl rfl rfl ?_
    refine w_iload_n (q := 57) rfl rfl rfl ?_
    obtain ⟨h3, k⟩ := k
    refine w_iast (q := 58) (n := 25) rfl rfl rfl rfl rfl h3 ?_
    refine w_aload_n (q := 59) rfl rfl rfl ?_
    refine w_dup (q := 60) rfl rfl rfl ?_
    refine w_gfi (q := 63) (k' := 6) (v := I 78 6) rfl rfl rfl rfl rfl rfl rfl ?_
    refine w_iconst (q := 64) rfl rfl ?_
    refine w_iadd (q := 65) rfl rfl ?_
    refine w_pfi (q := 68) (k' := 6) rfl rfl rfl rfl ?_
    exact w_vret rfl k
  · replace k := k.2 c2
    refine w_aload_n (q := 10) rfl rfl rfl ?_
    refine w_gfr (q := 13) rfl rfl rfl rfl (j := 83) rfl ?_
    refine w_aload_n (q := 14) rfl rfl rfl ?_
    refine w_gfr (q := 17) rfl rfl rfl rfl (j := 84) rfl ?_
    refine w_iload_n (q := 18) rfl rfl rfl ?_
    refine w_iconst (q := 19) rfl rfl ?_
    refine w_isub (q := 20) rfl rfl ?_
    obtain ⟨h4, k⟩ := k
    refine w_iald (q := 21) (n := 25) (v := I 84 (l2 - 1)) rfl rfl rfl rfl rfl rfl h4 ?_
    obtain ⟨h5, k⟩ := k
    refine w_iald (q := 22) (n := 30) (v := I 83 (I 84 (l2 - 1))) rfl rfl rfl rfl rfl rfl h5 ?_
    refine w_aload_n (q := 23) rfl rfl rfl ?_
    refine w_gfr (q := 26) rfl rfl rfl rfl (j := 83) rfl ?_
    refine w_iload_n (q := 27) rfl rfl rfl ?_
    obtain ⟨h6, k⟩ := k
    refine w_iald (q := 28) (n := 30) (v := I 83 l1) rfl rfl rfl rfl rfl rfl h6 ?_
    obtain ⟨h7, h8, k⟩ := k
    refine w_cle (t := 51) (q := 31) rfl rfl rfl h7 h8 (fun c9 => ?_) (fun c9 => ?_)
    · replace k := k.1 c9
      refine w_aload_n (q := 52) rfl rfl rfl ?_
      refine w_gfr (q := 55) rfl rfl rfl rfl (j := 84) rfl ?_
      refine w_iload_n (q := 56) rfl rfl rfl ?_
      refine w_iload_n (q := 57) rfl rfl rfl ?_
      obtain ⟨h10, k⟩ := k
      refine w_iast (q := 58) (n := 25) rfl rfl rfl rfl rfl h10 ?_
      refine w_aload_n (q := 59) rfl rfl rfl ?_
      refine w_dup (q := 60) rfl rfl rfl ?_
      refine w_gfi (q := 63) (k' := 6) (v := I 78 6) rfl rfl rfl rfl rfl rfl rfl ?_
      refine w_iconst (q := 64) rfl rfl ?_
      refine w_iadd (q := 65) rfl rfl ?_
      refine w_pfi (q := 68) (k' := 6) rfl rfl rfl rfl ?_
      exact w_vret rfl k
    · replace k := k.2 c9
      refine w_aload_n (q := 32) rfl rfl rfl ?_
      refine w_gfr (q := 35) rfl rfl rfl rfl (j := 84) rfl ?_
      refine w_iload_n (q := 36) rfl rfl rfl ?_
      refine w_aload_n (q := 37) rfl rfl rfl ?_
      refine w_gfr (q := 40) rfl rfl rfl rfl (j := 84) rfl ?_
      refine w_iload_n (q := 41) rfl rfl rfl ?_
      refine w_iconst (q := 42) rfl rfl ?_
      refine w_isub (q := 43) rfl rfl ?_
      refine w_iald (q := 44) (n := 25) (v := I 84 (l2 - 1)) rfl rfl rfl rfl rfl rfl h4 ?_
      obtain ⟨h11, k⟩ := k
      refine w_iast (q := 45) (n := 25) rfl rfl rfl rfl rfl h11 ?_
      refine w_iinc (q := 48) (L' := [some (.ref 78), some (w_i l1), some (w_i (l2 + (-1)))]) (M' := []) rfl rfl rfl rfl rfl rfl ?_
      refine w_goto (t := 5) rfl rfl ?_
      exact k
theorem e25 {xs : Nat → Int32} {xl : Nat} {I J : w_I} {b : Bool} {Q : Option Value → w_I → w_I → Bool → Prop} {a1 : Int} (t : w_T xs xl 25 0 [some (.ref 78), some (w_i a1), none, none] [] [] I J b Q) : w_C xs xl 25 [.ref 78, w_i a1] I J b Q := w_en rfl t
theorem b25_0 {xs : Nat → Int32} {xl : Nat} {I J : w_I} {b : Bool} {Q : Option Value → w_I → w_I → Bool → Prop} {a1 : Int} (k : w_T xs xl 25 7 [some (.ref 78), some (w_i a1), some (w_i 0), none] [] [] (w_U I 78 7 0) J b Q) : w_T xs xl 25 0 [some (.ref 78), some (w_i a1), none, none] [] [] I J b Q := by
  refine w_aload_n (q := 1) rfl rfl rfl ?_
  refine w_iconst (q := 2) rfl rfl ?_
  refine w_pfi (q := 5) (k' := 7) rfl rfl rfl rfl ?_
  refine w_iconst (q := 6) rfl rfl ?_
  refine w_istore_n (q := 7) (L' := [some (.ref 78), some (w_i a1), some (w_i 0), none]) (M' := []) rfl rfl rfl rfl rfl ?_
  exact k
theorem b25_7 {xs : Nat → Int32} {xl : Nat} {I J : w_I} {b : Bool} {Q : Option Value → w_I → w_I → Bool → Prop} {l1 l2 : Int} {u3 : Option Value} (k : ((-2147483648 ≤ l2 ∧ l2 < 2147483648) ∧ (-2147483648 ≤ I 2 5 ∧ I 2 5 < 2147483648) ∧ ((I 2 5 ≤ l2 → Q (some (w_i (-1))) I J b) ∧ (¬ I 2 5 ≤ l2 → w_T xs xl 25 22 [some (.ref 78), some (w_i l1), some (w_i l2), some (w_i (l2 + 1))] [] [] I J b Q)))) : w_T xs xl 25 7 [some (.ref 78), some (w_i l1), some (w_i l2), u3] [] [] I J b Q := by
  refine w_iload_n (q := 8) rfl rfl rfl ?_
  refine w_aload_n (q := 9) rfl rfl rfl ?_
  refine w_gfr (q := 12) rfl rfl rfl rfl (j := 2) rfl ?_
  refine w_gfi (q := 15) (k' := 5) (v := I 2 5) rfl rfl rfl rfl rfl rfl rfl ?_
  obtain ⟨h1, h2, k⟩ := k
  refine w_cge (t := 79) (q := 18) rfl rfl rfl h1 h2 (fun c3 => ?_) (fun c3 => ?_)
  · replace k := k.1 c3
    refine w_iconst (q := 80) rfl rfl ?_
    exact w_iret rfl rfl k
  · replace k := k.2 c3
    refine w_iload_n (q := 19) rfl rfl rfl ?_
    refine w_iconst (q := 20) rfl rfl ?_
    refine w_iadd (q := 21) rfl rfl ?_
    refine w_istore_n (q := 22) (L' := [some (.ref 78), some (w_i l1), some (w_i l2), some (w_i (l2 + 1))]) (M' := []) rfl rfl rfl rfl rfl ?_
    exact k
theorem b25_22 {xs : Nat → Int32} {xl : Nat} {I J : w_I} {b : Bool} {Q : Option Value → w_I → w_I → Bool → Prop} {l1 l2 l3 : Int} (k : ((-2147483648 ≤ l3 ∧ l3 < 2147483648) ∧ (-2147483648 ≤ I 2 5 ∧ I 2 5 < 2147483648) ∧ ((I 2 5 ≤ l3 → w_T xs xl 25 7 [some (.ref 78), some (w_i l1), some (w_i (l2 + 1)), some (w_i l3)] [] [] I J b Q) ∧ (¬ I 2 5 ≤ l3 → w_C xs xl 26 [.ref 78, w_i l2, w_i l3] I J b (fun v Ic Jc bc => w_T xs xl 25 39 [some (.ref 78), some (w_i l1), some (w_i l2), some (w_i l3)] [] (w_pv v []) Ic Jc bc Q))))) : w_T xs xl 25 22 [some (.ref 78), some (w_i l1), some (w_i l2), some (w_i l3)] [] [] I J b Q := by
  refine w_iload_n (q := 23) rfl rfl rfl ?_
  refine w_aload_n (q := 24) rfl rfl rfl ?_
  refine w_gfr (q := 27) rfl rfl rfl rfl (j := 2) rfl ?_
  refine w_gfi (q := 30) (k' := 5) (v := I 2 5) rfl rfl rfl rfl rfl rfl rfl ?_
  obtain ⟨h1, h2, k⟩ := k
  refine w_cge (t := 73) (q := 33) rfl rfl rfl h1 h2 (fun c3 => ?_) (fun c3 => ?_)
  · replace k := k.1 c3
    refine w_iinc (q := 76) (L' := [some (.ref 78), some (w_i l1), some (w_i (l2 + 1)), some (w_i l3)]) (M' := []) rfl rfl rfl rfl rfl rfl ?_
    refine w_goto (t := 7) rfl rfl ?_
    exact k
  · replace k := k.2 c3
    refine w_aload_n (q := 34) rfl rfl rfl ?_
    refine w_iload_n (q := 35) rfl rfl rfl ?_
    refine w_iload_n (q := 36) rfl rfl rfl ?_
    refine w_callv (q := 39) rfl rfl rfl rfl rfl rfl ?_
    exact k
theorem b25_39 {xs : Nat → Int32} {xl : Nat} {I J : w_I} {b : Bool} {Q : Option Value → w_I → w_I → Bool → Prop} {l1 l2 l3 s0 : Int} (k : ((-2147483648 ≤ s0 ∧ s0 < 2147483648) ∧ ((s0 = 0 → w_T xs xl 25 22 [some (.ref 78), some (w_i l1), some (w_i l2), some (w_i (l3 + 1))] [] [] I J b Q) ∧ (¬ s0 = 0 → ((-2147483648 ≤ I 78 7 ∧ I 78 7 < 2147483648) ∧ (-2147483648 ≤ l1 ∧ l1 < 2147483648) ∧ ((¬ I 78 7 = l1 → w_T xs xl 25 22 [some (.ref 78), some (w_i l1), some (w_i l2), some (w_i (l3 + 1))] [] [] (w_U I 78 7 (I 78 7 + 1)) J b Q) ∧ (I 78 7 = l1 → Q (some (w_i (100 * l2 + l3))) I J b))))))) : w_T xs xl 25 39 [some (.ref 78), some (w_i l1), some (w_i l2), some (w_i l3)] [] [w_i s0] I J b Q := by
  obtain ⟨h1, k⟩ := k
  refine w_zeq (t := 67) (q := 42) rfl rfl rfl h1 (fun c2 => ?_) (fun c2 => ?_)
  · replace k := k.1 c2
    refine w_iinc (q := 70) (L' := [some (.ref 78), some (w_i l1), some (w_i l2), some (w_i (l3 + 1))]) (M' := []) rfl rfl rfl rfl rfl rfl ?_
    refine w_goto (t := 22) rfl rfl ?_
    exact k
  · replace k := k.2 c2
    refine w_aload_n (q := 43) rfl rfl rfl ?_
    refine w_gfi (q := 46) (k' := 7) (v := I 78 7) rfl rfl rfl rfl rfl rfl rfl ?_
    refine w_iload_n (q := 47) rfl rfl rfl ?_
    obtain ⟨h3, h4, k⟩ := k
    refine w_cne (t := 57) (q := 50) rfl rfl rfl h3 h4 (fun c5 => ?_) (fun c5 => ?_)
    · replace k := k.1 c5
      refine w_aload_n (q := 58) rfl rfl rfl ?_
      refine w_dup (q := 59) rfl rfl rfl ?_
      refine w_gfi (q := 62) (k' := 7) (v := I 78 7) rfl rfl rfl rfl rfl rfl rfl ?_
      refine w_iconst (q := 63) rfl rfl ?_
      refine w_iadd (q := 64) rfl rfl ?_
      refine w_pfi (q := 67) (k' := 7) rfl rfl rfl rfl ?_
      refine w_iinc (q := 70) (L' := [some (.ref 78), some (w_i l1), some (w_i l2), some (w_i (l3 + 1))]) (M' := []) rfl rfl rfl rfl rfl rfl ?_
      refine w_goto (t := 22) rfl rfl ?_
      exact k
    · replace k := k.2 c5
      refine w_bipush (q := 52) rfl rfl rfl ?_
      refine w_iload_n (q := 53) rfl rfl rfl ?_
      refine w_imul (q := 54) rfl rfl ?_
      refine w_iload_n (q := 55) rfl rfl rfl ?_
      refine w_iadd (q := 56) rfl rfl ?_
      exact w_iret rfl rfl k
theorem e26 {xs : Nat → Int32} {xl : Nat} {I J : w_I} {b : Bool} {Q : Option Value → w_I → w_I → Bool → Prop} {a1 a2 : Int} (t : w_T xs xl 26 0 [some (.ref 78), some (w_i a1), some (w_i a2), none, none] [] [] I J b Q) : w_C xs xl 26 [.ref 78, w_i a1, w_i a2] I J b Q := w_en rfl t
theorem b26_0 {xs : Nat → Int32} {xl : Nat} {I J : w_I} {b : Bool} {Q : Option Value → w_I → w_I → Bool → Prop} {a1 a2 : Int} (k : ((0 ≤ a1 ∧ a1 < 24) ∧ ((0 ≤ a2 ∧ a2 < 24) ∧ ((-2147483648 ≤ I 30 a1 ∧ I 30 a1 < 2147483648) ∧ ((I 30 a1 = (-1) → Q (some (w_i 0)) I J b) ∧ (¬ I 30 a1 = (-1) → ((-2147483648 ≤ I 30 a2 ∧ I 30 a2 < 2147483648) ∧ ((I 30 a2 = (-1) → Q (some (w_i 0)) I J b) ∧ (¬ I 30 a2 = (-1) → ((0 ≤ I 30 a1 ∧ I 30 a1 < 30) ∧ ((0 ≤ I 30 a2 ∧ I 30 a2 < 30) ∧ ((-2147483648 ≤ I 83 (I 30 a1) ∧ I 83 (I 30 a1) < 2147483648) ∧ (-2147483648 ≤ I 83 (I 30 a2) ∧ I 83 (I 30 a2) < 2147483648) ∧ ((I 83 (I 30 a2) < I 83 (I 30 a1) → w_C xs xl 105 [.ref 2, w_i a1, w_i a2] I J b (fun v Ic Jc bc => w_T xs xl 26 59 [some (.ref 78), some (w_i a1), some (w_i a2), some (w_i (I 30 a1)), some (w_i (I 30 a2))] [] (w_pv v []) Ic Jc bc Q)) ∧ (¬ I 83 (I 30 a2) < I 83 (I 30 a1) → Q (some (w_i 0)) I J b)))))))))))))) : w_T xs xl 26 0 [some (.ref 78), some (w_i a1), some (w_i a2), none, none] [] [] I J b Q := by
  refine w_aload_n (q := 1) rfl rfl rfl ?_
  refine w_gfr (q := 4) rfl rfl rfl rfl (j := 20) rfl ?_
  refine w_gfr (q := 7) rfl rfl rfl rfl (j := 30) rfl ?_
  refine w_iload_n (q := 8) rfl rfl rfl ?_
  obtain ⟨h1, k⟩ := k
  refine w_iald (q := 9) (n := 24) (v := I 30 a1) rfl rfl rfl rfl rfl rfl h1 ?_
  refine w_istore_n (q := 10) (L' := [some (.ref 78), some (w_i a1), some (w_i a2), some (w_i (I 30 a1)), none]) (M' := []) rfl rfl rfl rfl rfl ?_
  refine w_aload_n (q := 11) rfl rfl rfl ?_
  refine w_gfr (q := 14) rfl rfl rfl rfl (j := 20) rfl ?_
  refine w_gfr (q := 17) rfl rfl rfl rfl (j := 30) rfl ?_
  refine w_iload_n (q := 18) rfl rfl rfl ?_
  obtain ⟨h2, k⟩ := k
  refine w_iald (q := 19) (n := 24) (v := I 30 a2) rfl rfl rfl rfl rfl rfl h2 ?_
  refine w_istore (q := 21) (L' := [some (.ref 78), some (w_i a1), some (w_i a2), some (w_i (I 30 a1)), some (w_i (I 30 a2))]) (M' := []) rfl rfl rfl rfl rfl ?_
  refine w_iload_n (q := 22) rfl rfl rfl ?_
  refine w_iconst (q := 23) rfl rfl ?_
  obtain ⟨h3, k⟩ := k
  refine w_ceq (t := 48) (q := 26) rfl rfl rfl h3 (by decide) (fun c4 => ?_) (fun c4 => ?_)
  · replace k := k.1 c4
    refine w_iconst (q := 49) rfl rfl ?_
    refine w_iret rfl rfl k
  · replace k := k.2 c4
    refine w_iload (q := 28) rfl rfl rfl ?_
    refine w_iconst (q := 29) rfl rfl ?_
    obtain ⟨h5, k⟩ := k
    refine w_ceq (t := 48) (q := 32) rfl rfl rfl h5 (by decide) (fun c6 => ?_) (fun c6 => ?_)
    · replace k := k.1 c6
      refine w_iconst (q := 49) rfl rfl ?_
      refine w_iret rfl rfl k
    · replace k := k.2 c6
      refine w_aload_n (q := 33) rfl rfl rfl ?_
      refine w_gfr (q := 36) rfl rfl rfl rfl (j := 83) rfl ?_
      refine w_iload_n (q := 37) rfl rfl rfl ?_
      obtain ⟨h7, k⟩ := k
      refine w_iald (q := 38) (n := 30) (v := I 83 (I 30 a1)) rfl rfl rfl rfl rfl rfl h7 ?_
      refine w_aload_n (q := 39) rfl rfl rfl ?_
      refine w_gfr (q := 42) rfl rfl rfl rfl (j := 83) rfl ?_
      refine w_iload (q := 44) rfl rfl rfl ?_
      obtain ⟨h8, k⟩ := k
      refine w_iald (q := 45) (n := 30) (v := I 83 (I 30 a2)) rfl rfl rfl rfl rfl rfl h8 ?_
      obtain ⟨h9, h10, k⟩ := k
      refine w_cgt (t := 50) (q := 48) rfl rfl rfl h9 h10 (fun c11 => ?_) (fun c11 => ?_)
      · replace k := k.1 c11
        refine w_aload_n (q := 51) rfl rfl rfl ?_
        refine w_gfr (q := 54) rfl rfl rfl rfl (j := 2) rfl ?_
        refine w_iload_n (q := 55) rfl rfl rfl ?_
        refine w_iload_n (q := 56) rfl rfl rfl ?_
        refine w_callv (q := 59) rfl rfl rfl rfl rfl rfl ?_
        exact k
      · replace k := k.2 c11
        refine w_iconst (q := 49) rfl rfl ?_
        refine w_iret rfl rfl k
theorem b26_59 {xs : Nat → Int32} {xl : Nat} {I J : w_I} {b : Bool} {Q : Option Value → w_I → w_I → Bool → Prop} {u1 u2 : Option Value} {l3 l4 s0 : Int} (k : ((-2147483648 ≤ s0 ∧ s0 < 2147483648) ∧ ((s0 = 0 → Q (some (w_i 0)) I J b) ∧ (¬ s0 = 0 → ((0 ≤ l3 ∧ l3 < 30) ∧ ((0 ≤ l4 ∧ l4 < 30) ∧ w_C xs xl 27 [.ref 78, w_i l3, w_i (I 83 l3 - I 83 l4)] I J b (fun v Ic Jc bc => w_T xs xl 26 81 [some (.ref 78), u1, u2, some (w_i l3), some (w_i l4)] [] (w_pv v []) Ic Jc bc Q))))))) : w_T xs xl 26 59 [some (.ref 78), u1, u2, some (w_i l3), some (w_i l4)] [] [w_i s0] I J b Q := by
  obtain ⟨h1, k⟩ := k
  refine w_zeq (t := 88) (q := 62) rfl rfl rfl h1 (fun c2 => ?_) (fun c2 => ?_)
  · replace k := k.1 c2
    refine w_iconst (q := 89) rfl rfl ?_
    refine w_iret rfl rfl k
  · replace k := k.2 c2
    refine w_aload_n (q := 63) rfl rfl rfl ?_
    refine w_iload_n (q := 64) rfl rfl rfl ?_
    refine w_aload_n (q := 65) rfl rfl rfl ?_
    refine w_gfr (q := 68) rfl rfl rfl rfl (j := 83) rfl ?_
    refine w_iload_n (q := 69) rfl rfl rfl ?_
    obtain ⟨h3, k⟩ := k
    refine w_iald (q := 70) (n := 30) (v := I 83 l3) rfl rfl rfl rfl rfl rfl h3 ?_
    refine w_aload_n (q := 71) rfl rfl rfl ?_
    refine w_gfr (q := 74) rfl rfl rfl rfl (j := 83) rfl ?_
    refine w_iload (q := 76) rfl rfl rfl ?_
    obtain ⟨h4, k⟩ := k
    refine w_iald (q := 77) (n := 30) (v := I 83 l4) rfl rfl rfl rfl rfl rfl h4 ?_
    refine w_isub (q := 78) rfl rfl ?_
    refine w_callv (q := 81) rfl rfl rfl rfl rfl rfl ?_
    exact k
theorem b26_81 {xs : Nat → Int32} {xl : Nat} {I J : w_I} {b : Bool} {Q : Option Value → w_I → w_I → Bool → Prop} {u1 u2 u3 u4 : Option Value} {s0 : Int} (k : ((-2147483648 ≤ s0 ∧ s0 < 2147483648) ∧ ((¬ s0 = 0 → Q (some (w_i 0)) I J b) ∧ (s0 = 0 → Q (some (w_i 1)) I J b)))) : w_T xs xl 26 81 [some (.ref 78), u1, u2, u3, u4] [] [w_i s0] I J b Q := by
  obtain ⟨h1, k⟩ := k
  refine w_zne (t := 88) (q := 84) rfl rfl rfl h1 (fun c2 => ?_) (fun c2 => ?_)
  · replace k := k.1 c2
    refine w_iconst (q := 89) rfl rfl ?_
    refine w_iret rfl rfl k
  · replace k := k.2 c2
    refine w_iconst (q := 85) rfl rfl ?_
    refine w_goto (t := 89) rfl rfl ?_
    refine w_iret rfl rfl k
theorem e27 {xs : Nat → Int32} {xl : Nat} {I J : w_I} {b : Bool} {Q : Option Value → w_I → w_I → Bool → Prop} {a1 a2 : Int} (t : w_T xs xl 27 0 [some (.ref 78), some (w_i a1), some (w_i a2), none] [] [] I J b Q) : w_C xs xl 27 [.ref 78, w_i a1, w_i a2] I J b Q := w_en rfl t
theorem b27_0 {xs : Nat → Int32} {xl : Nat} {I J : w_I} {b : Bool} {Q : Option Value → w_I → w_I → Bool → Prop} {a1 a2 : Int} (k : w_C xs xl 28 [.ref 78, w_i a1] I J b (fun v Ic Jc bc => w_T xs xl 27 5 [some (.ref 78), some (w_i a1), some (w_i a2), none] [] (w_pv v []) Ic Jc bc Q)) : w_T xs xl 27 0 [some (.ref 78), some (w_i a1), some (w_i a2), none] [] [] I J b Q := by
  refine w_aload_n (q := 1) rfl rfl rfl ?_
  refine w_iload_n (q := 2) rfl rfl rfl ?_
  refine w_callv (q := 5) rfl rfl rfl rfl rfl rfl ?_
  exact k
theorem b27_5 {xs : Nat → Int32} {xl : Nat} {I J : w_I} {b : Bool} {Q : Option Value → w_I → w_I → Bool → Prop} {u1 u3 : Option Value} {l2 : Int} (k : w_T xs xl 27 18 [some (.ref 78), u1, some (w_i l2), some (w_i 0)] [] [] (w_U I 80 7 l2) J b Q) : w_T xs xl 27 5 [some (.ref 78), u1, some (w_i l2), u3] [] [] I J b Q := by
  refine w_aload_n (q := 6) rfl rfl rfl ?_
  refine w_gfr (q := 9) rfl rfl rfl rfl (j := 79) rfl ?_
  refine w_gfr (q := 12) rfl rfl rfl rfl (j := 80) rfl ?_
  refine w_bipush (q := 14) rfl rfl rfl ?_
  refine w_iload_n (q := 15) rfl rfl rfl ?_
  refine w_iast (q := 16) (n := 10) rfl rfl rfl rfl rfl (by decide) ?_
  refine w_iconst (q := 17) rfl rfl ?_
  refine w_istore_n (q := 18) (L' := [some (.ref 78), u1, some (w_i l2), some (w_i 0)]) (M' := []) rfl rfl rfl rfl rfl ?_
  exact k
theorem b27_18 {xs : Nat → Int32} {xl : Nat} {I J : w_I} {b : Bool} {Q : Option Value → w_I → w_I → Bool → Prop} {u1 u2 : Option Value} {l3 : Int} (k : ((-2147483648 ≤ l3 ∧ l3 < 2147483648) ∧ (-2147483648 ≤ I 2 8 ∧ I 2 8 < 2147483648) ∧ ((I 2 8 ≤ l3 → Q (some (w_i 0)) I J b) ∧ (¬ I 2 8 ≤ l3 → w_C xs xl 96 [.ref 79, w_i (4 + l3)] I J b (fun v Ic Jc bc => w_T xs xl 27 39 [some (.ref 78), u1, u2, some (w_i l3)] [] (w_pv v []) Ic Jc bc Q))))) : w_T xs xl 27 18 [some (.ref 78), u1, u2, some (w_i l3)] [] [] I J b Q := by
  refine w_iload_n (q := 19) rfl rfl rfl ?_
  refine w_aload_n (q := 20) rfl rfl rfl ?_
  refine w_gfr (q := 23) rfl rfl rfl rfl (j := 2) rfl ?_
  refine w_gfi (q := 26) (k' := 8) (v := I 2 8) rfl rfl rfl rfl rfl rfl rfl ?_
  obtain ⟨h1, h2, k⟩ := k
  refine w_cge (t := 50) (q := 29) rfl rfl rfl h1 h2 (fun c3 => ?_) (fun c3 => ?_)
  · replace k := k.1 c3
    refine w_iconst (q := 51) rfl rfl ?_
    refine w_iret rfl rfl k
  · replace k := k.2 c3
    refine w_aload_n (q := 30) rfl rfl rfl ?_
    refine w_gfr (q := 33) rfl rfl rfl rfl (j := 79) rfl ?_
    refine w_iconst (q := 34) rfl rfl ?_
    refine w_iload_n (q := 35) rfl rfl rfl ?_
    refine w_iadd (q := 36) rfl rfl ?_
    refine w_callv (q := 39) rfl rfl rfl rfl rfl rfl ?_
    exact k
theorem b27_39 {xs : Nat → Int32} {xl : Nat} {I J : w_I} {b : Bool} {Q : Option Value → w_I → w_I → Bool → Prop} {u1 u2 : Option Value} {l3 s0 : Int} (k : ((-2147483648 ≤ s0 ∧ s0 < 2147483648) ∧ ((s0 = 0 → w_T xs xl 27 18 [some (.ref 78), u1, u2, some (w_i (l3 + 1))] [] [] I J b Q) ∧ (¬ s0 = 0 → Q (some (w_i 1)) I J b)))) : w_T xs xl 27 39 [some (.ref 78), u1, u2, some (w_i l3)] [] [w_i s0] I J b Q := by
  obtain ⟨h1, k⟩ := k
  refine w_zeq (t := 44) (q := 42) rfl rfl rfl h1 (fun c2 => ?_) (fun c2 => ?_)
  · replace k := k.1 c2
    refine w_iinc (q := 47) (L' := [some (.ref 78), u1, u2, some (w_i (l3 + 1))]) (M' := []) rfl rfl rfl rfl rfl rfl ?_
    refine w_goto (t := 18) rfl rfl ?_
    exact k
  · replace k := k.2 c2
    refine w_iconst (q := 43) rfl rfl ?_
    refine w_iret rfl rfl k
theorem e28 {xs : Nat → Int32} {xl : Nat} {I J : w_I} {b : Bool} {Q : Option Value → w_I → w_I → Bool → Prop} {a1 : Int} (t : w_T xs xl 28 0 [some (.ref 78), some (w_i a1)] [] [] I J b Q) : w_C xs xl 28 [.ref 78, w_i a1] I J b Q := w_en rfl t
theorem b28_0 {xs : Nat → Int32} {xl : Nat} {I J : w_I} {b : Bool} {Q : Option Value → w_I → w_I → Bool → Prop} {a1 : Int} (k : w_C xs xl 295 [.ref 80, w_i 0] I J b (fun v Ic Jc bc => w_T xs xl 28 11 [some (.ref 78), some (w_i a1)] [] (w_pv v []) Ic Jc bc Q)) : w_T xs xl 28 0 [some (.ref 78), some (w_i a1)] [] [] I J b Q := by
  refine w_aload_n (q := 1) rfl rfl rfl ?_
  refine w_gfr (q := 4) rfl rfl rfl rfl (j := 79) rfl ?_
  refine w_gfr (q := 7) rfl rfl rfl rfl (j := 80) rfl ?_
  refine w_iconst (q := 8) rfl rfl ?_
  refine w_call (q := 11) rfl rfl rfl rfl rfl ?_
  exact k
theorem b28_11 {xs : Nat → Int32} {xl : Nat} {I J : w_I} {b : Bool} {Q : Option Value → w_I → w_I → Bool → Prop} {l1 : Int} (k : ((0 ≤ l1 ∧ l1 < 30) ∧ (((0 : Int) ≤ I 20 15 ∧ I 20 15 < 2147483648 ∧ (0 : Int) < 12 ∧ 12 < (2147483648 : Int)) ∧ Q none (w_U (w_U (w_U (w_U I 80 0 (I 82 l1)) 80 1 (I 26 l1)) 80 2 (I 27 l1)) 80 3 (I 20 15 % 12)) J b))) : w_T xs xl 28 11 [some (.ref 78), some (w_i l1)] [] [] I J b Q := by
  refine w_aload_n (q := 12) rfl rfl rfl ?_
  refine w_gfr (q := 15) rfl rfl rfl rfl (j := 79) rfl ?_
  refine w_gfr (q := 18) rfl rfl rfl rfl (j := 80) rfl ?_
  refine w_iconst (q := 19) rfl rfl ?_
  refine w_aload_n (q := 20) rfl rfl rfl ?_
  refine w_gfr (q := 23) rfl rfl rfl rfl (j := 82) rfl ?_
  refine w_iload_n (q := 24) rfl rfl rfl ?_
  obtain ⟨h1, k⟩ := k
  refine w_iald (q := 25) (n := 30) (v := I 82 l1) rfl rfl rfl rfl rfl rfl h1 ?_
  refine w_iast (q := 26) (n := 10) rfl rfl rfl rfl rfl (by decide) ?_
  refine w_aload_n (q := 27) rfl rfl rfl ?_
  refine w_gfr (q := 30) rfl rfl rfl rfl (j := 79) rfl ?_
  refine w_gfr (q := 33) rfl rfl rfl rfl (j := 80) rfl ?_
  refine w_iconst (q := 34) rfl rfl ?_
  refine w_aload_n (q := 35) rfl rfl rfl ?_
  refine w_gfr (q := 38) rfl rfl rfl rfl (j := 20) rfl ?_
  refine w_gfr (q := 41) rfl rfl rfl rfl (j := 26) rfl ?_
  refine w_iload_n (q := 42) rfl rfl rfl ?_
  refine w_iald (q := 43) (n := 30) (v := I 26 l1) rfl rfl rfl rfl rfl rfl h1 ?_
  refine w_iast (q := 44) (n := 10) rfl rfl rfl rfl rfl (by decide) ?_
  refine w_aload_n (q := 45) rfl rfl rfl ?_
  refine w_gfr (q := 48) rfl rfl rfl rfl (j := 79) rfl ?_
  refine w_gfr (q := 51) rfl rfl rfl rfl (j := 80) rfl ?_
  refine w_iconst (q := 52) rfl rfl ?_
  refine w_aload_n (q := 53) rfl rfl rfl ?_
  refine w_gfr (q := 56) rfl rfl rfl rfl (j := 20) rfl ?_
  refine w_gfr (q := 59) rfl rfl rfl rfl (j := 27) rfl ?_
  refine w_iload_n (q := 60) rfl rfl rfl ?_
  refine w_iald (q := 61) (n := 30) (v := I 27 l1) rfl rfl rfl rfl rfl rfl h1 ?_
  refine w_iast (q := 62) (n := 10) rfl rfl rfl rfl rfl (by decide) ?_
  refine w_aload_n (q := 63) rfl rfl rfl ?_
  refine w_gfr (q := 66) rfl rfl rfl rfl (j := 79) rfl ?_
  refine w_gfr (q := 69) rfl rfl rfl rfl (j := 80) rfl ?_
  refine w_iconst (q := 70) rfl rfl ?_
  refine w_aload_n (q := 71) rfl rfl rfl ?_
  refine w_gfr (q := 74) rfl rfl rfl rfl (j := 20) rfl ?_
  refine w_gfi (q := 77) (k' := 15) (v := I 20 15) rfl rfl rfl rfl rfl rfl rfl ?_
  refine w_bipush (q := 79) rfl rfl rfl ?_
  obtain ⟨h2, k⟩ := k
  refine w_irem (q := 80) rfl rfl h2 ?_
  refine w_iast (q := 81) (n := 10) rfl rfl rfl rfl rfl (by decide) ?_
  exact w_vret rfl k
theorem e29 {xs : Nat → Int32} {xl : Nat} {I J : w_I} {b : Bool} {Q : Option Value → w_I → w_I → Bool → Prop} {a1 a2 : Int} (t : w_T xs xl 29 0 [some (.ref 78), some (w_i a1), some (w_i a2), none] [] [] I J b Q) : w_C xs xl 29 [.ref 78, w_i a1, w_i a2] I J b Q := w_en rfl t
theorem b29_0 {xs : Nat → Int32} {xl : Nat} {I J : w_I} {b : Bool} {Q : Option Value → w_I → w_I → Bool → Prop} {a1 a2 : Int} (k : ((0 ≤ a1 ∧ a1 < 30) ∧ w_C xs xl 28 [.ref 78, w_i a1] I J b (fun v Ic Jc bc => w_T xs xl 29 15 [some (.ref 78), some (w_i a1), some (w_i a2), some (w_i (I 28 a1))] [] (w_pv v []) Ic Jc bc Q))) : w_T xs xl 29 0 [some (.ref 78), some (w_i a1), some (w_i a2), none] [] [] I J b Q := by
  refine w_aload_n (q := 1) rfl rfl rfl ?_
  refine w_gfr (q := 4) rfl rfl rfl rfl (j := 20) rfl ?_
  refine w_gfr (q := 7) rfl rfl rfl rfl (j := 28) rfl ?_
  refine w_iload_n (q := 8) rfl rfl rfl ?_
  obtain ⟨h1, k⟩ := k
  refine w_iald (q := 9) (n := 30) (v := I 28 a1) rfl rfl rfl rfl rfl rfl h1 ?_
  refine w_istore_n (q := 10) (L' := [some (.ref 78), some (w_i a1), some (w_i a2), some (w_i (I 28 a1))]) (M' := []) rfl rfl rfl rfl rfl ?_
  refine w_aload_n (q := 11) rfl rfl rfl ?_
  refine w_iload_n (q := 12) rfl rfl rfl ?_
  refine w_callv (q := 15) rfl rfl rfl rfl rfl rfl ?_
  exact k
theorem b29_15 {xs : Nat → Int32} {xl : Nat} {I J : w_I} {b : Bool} {Q : Option Value → w_I → w_I → Bool → Prop} {u1 : Option Value} {l2 l3 : Int} (k : ((-2147483648 ≤ l3 ∧ l3 < 2147483648) ∧ ((¬ l3 = (-1) → ((-2147483648 ≤ l3 - l2 ∧ l3 - l2 < 2147483648) ∧ w_C xs xl 96 [.ref 79, w_i 0] (w_U (w_U (w_U I 80 4 l3) 80 5 l2) 80 6 (if 0 ≤ l3 - l2 then l3 - l2 else -(l3 - l2))) J b (fun v Ic Jc bc => w_T xs xl 29 68 [some (.ref 78), u1, some (w_i l2), some (w_i l3)] [] (w_pv v []) Ic Jc bc Q))) ∧ (l3 = (-1) → w_C xs xl 96 [.ref 79, w_i 0] (w_U (w_U (w_U I 80 4 l3) 80 5 l2) 80 6 0) J b (fun v Ic Jc bc => w_T xs xl 29 68 [some (.ref 78), u1, some (w_i l2), some (w_i l3)] [] (w_pv v []) Ic Jc bc Q))))) : w_T xs xl 29 15 [some (.ref 78), u1, some (w_i l2), some (w_i l3)] [] [] I J b Q := by
  refine w_aload_n (q := 16) rfl rfl rfl ?_
  refine w_gfr (q := 19) rfl rfl rfl rfl (j := 79) rfl ?_
  refine w_gfr (q := 22) rfl rfl rfl rfl (j := 80) rfl ?_
  refine w_iconst (q := 23) rfl rfl ?_
  refine w_iload_n (q := 24) rfl rfl rfl ?_
  refine w_iast (q := 25) (n := 10) rfl rfl rfl rfl rfl (by decide) ?_
  refine w_aload_n (q := 26) rfl rfl rfl ?_
  refine w_gfr (q := 29) rfl rfl rfl rfl (j := 79) rfl ?_
  refine w_gfr (q := 32) rfl rfl rfl rfl (j := 80) rfl ?_
  refine w_iconst (q := 33) rfl rfl ?_
  refine w_iload_n (q := 34) rfl rfl rfl ?_
  refine w_iast (q := 35) (n := 10) rfl rfl rfl rfl rfl (by decide) ?_
  refine w_aload_n (q := 36) rfl rfl rfl ?_
  refine w_gfr (q := 39) rfl rfl rfl rfl (j := 79) rfl ?_
  refine w_gfr (q := 42) rfl rfl rfl rfl (j := 80) rfl ?_
  refine w_bipush (q := 44) rfl rfl rfl ?_
  refine w_iload_n (q := 45) rfl rfl rfl ?_
  refine w_iconst (q := 46) rfl rfl ?_
  obtain ⟨h1, k⟩ := k
  refine w_cne (t := 53) (q := 49) rfl rfl rfl h1 (by decide) (fun c2 => ?_) (fun c2 => ?_)
  · replace k := k.1 c2
    refine w_iload_n (q := 54) rfl rfl rfl ?_
    refine w_iload_n (q := 55) rfl rfl rfl ?_
    refine w_isub (q := 56) rfl rfl ?_
    obtain ⟨h3, k⟩ := k
    refine w_abs (q := 59) rfl rfl rfl h3 ?_
    refine w_iast (q := 60) (n := 10) rfl rfl rfl rfl rfl (by decide) ?_
    refine w_aload_n (q := 61) rfl rfl rfl ?_
    refine w_gfr (q := 64) rfl rfl rfl rfl (j := 79) rfl ?_
    refine w_iconst (q := 65) rfl rfl ?_
    refine w_callv (q := 68) rfl rfl rfl rfl rfl rfl ?_
    exact k
  · replace k := k.2 c2
    refine w_iconst (q := 50) rfl rfl ?_
    refine w_goto (t := 59) rfl rfl ?_
    refine w_iast (q := 60) (n := 10) rfl rfl rfl rfl rfl (by decide) ?_
    refine w_aload_n (q := 61) rfl rfl rfl ?_
    refine w_gfr (q := 64) rfl rfl rfl rfl (j := 79) rfl ?_
    refine w_iconst (q := 65) rfl rfl ?_
    refine w_callv (q := 68) rfl rfl rfl rfl rfl rfl ?_
    exact k
theorem b29_68 {xs : Nat → Int32} {xl : Nat} {I J : w_I} {b : Bool} {Q : Option Value → w_I → w_I → Bool → Prop} {u1 u2 u3 : Option Value} {s0 : Int} (k : w_C xs xl 161 [w_i s0, w_i 9999] I J b (fun v Ic Jc bc => w_T xs xl 29 74 [some (.ref 78), u1, u2, u3] [] (w_pv v []) Ic Jc bc Q)) : w_T xs xl 29 68 [some (.ref 78), u1, u2, u3] [] [w_i s0] I J b Q := by
  refine w_sipush (q := 71) rfl rfl rfl ?_
  refine w_call (q := 74) rfl rfl rfl rfl rfl ?_
  exact k
theorem b29_74 {xs : Nat → Int32} {xl : Nat} {I J : w_I} {b : Bool} {Q : Option Value → w_I → w_I → Bool → Prop} {u1 u2 u3 : Option Value} {s0 : Int} (k : Q (some (w_i s0)) I J b) : w_T xs xl 29 74 [some (.ref 78), u1, u2, u3] [] [w_i s0] I J b Q := by
  exact w_iret rfl rfl k
theorem e30 {xs : Nat → Int32} {xl : Nat} {I J : w_I} {b : Bool} {Q : Option Value → w_I → w_I → Bool → Prop} {a1 a2 : Int} (t : w_T xs xl 30 0 [some (.ref 78), some (w_i a1), some (w_i a2)] [] [] I J b Q) : w_C xs xl 30 [.ref 78, w_i a1, w_i a2] I J b Q := w_en rfl t
theorem b30_0 {xs : Nat → Int32} {xl : Nat} {I J : w_I} {b : Bool} {Q : Option Value → w_I → w_I → Bool → Prop} {a1 a2 : Int} (k : w_C xs xl 295 [.ref 80, w_i 0] I J b (fun v Ic Jc bc => w_T xs xl 30 11 [some (.ref 78), some (w_i a1), some (w_i a2)] [] (w_pv v []) Ic Jc bc Q)) : w_T xs xl 30 0 [some (.ref 78), some (w_i a1), some (w_i a2)] [] [] I J b Q := by
  refine w_aload_n (q := 1) rfl rfl rfl ?_
  refine w_gfr (q := 4) rfl rfl rfl rfl (j := 79) rfl ?_
  refine w_gfr (q := 7) rfl rfl rfl rfl (j := 80) rfl ?_
  refine w_iconst (q := 8) rfl rfl ?_
  refine w_call (q := 11) rfl rfl rfl rfl rfl ?_
  exact k
theorem b30_11 {xs : Nat → Int32} {xl : Nat} {I J : w_I} {b : Bool} {Q : Option Value → w_I → w_I → Bool → Prop} {l1 l2 : Int} (k : w_C xs xl 96 [.ref 79, w_i 3] (w_U (w_U I 80 0 l1) 80 2 l2) J b (fun v Ic Jc bc => w_T xs xl 30 39 [some (.ref 78), some (w_i l1), some (w_i l2)] [] (w_pv v []) Ic Jc bc Q)) : w_T xs xl 30 11 [some (.ref 78), some (w_i l1), some (w_i l2)] [] [] I J b Q := by
  refine w_aload_n (q := 12) rfl rfl rfl ?_
  refine w_gfr (q := 15) rfl rfl rfl rfl (j := 79) rfl ?_
  refine w_gfr (q := 18) rfl rfl rfl rfl (j := 80) rfl ?_
  refine w_iconst (q := 19) rfl rfl ?_
  refine w_iload_n (q := 20) rfl rfl rfl ?_
  refine w_iast (q := 21) (n := 10) rfl rfl rfl rfl rfl (by decide) ?_
  refine w_aload_n (q := 22) rfl rfl rfl ?_
  refine w_gfr (q := 25) rfl rfl rfl rfl (j := 79) rfl ?_
  refine w_gfr (q := 28) rfl rfl rfl rfl (j := 80) rfl ?_
  refine w_iconst (q := 29) rfl rfl ?_
  refine w_iload_n (q := 30) rfl rfl rfl ?_
  refine w_iast (q := 31) (n := 10) rfl rfl rfl rfl rfl (by decide) ?_
  refine w_aload_n (q := 32) rfl rfl rfl ?_
  refine w_gfr (q := 35) rfl rfl rfl rfl (j := 79) rfl ?_
  refine w_iconst (q := 36) rfl rfl ?_
  refine w_callv (q := 39) rfl rfl rfl rfl rfl rfl ?_
  exact k
theorem b30_39 {xs : Nat → Int32} {xl : Nat} {I J : w_I} {b : Bool} {Q : Option Value → w_I → w_I → Bool → Prop} {u1 u2 : Option Value} {s0 : Int} (k : w_C xs xl 161 [w_i s0, w_i 100] I J b (fun v Ic Jc bc => w_T xs xl 30 44 [some (.ref 78), u1, u2] [] (w_pv v []) Ic Jc bc Q)) : w_T xs xl 30 39 [some (.ref 78), u1, u2] [] [w_i s0] I J b Q := by
  refine w_bipush (q := 41) rfl rfl rfl ?_
  refine w_call (q := 44) rfl rfl rfl rfl rfl ?_
  exact k
theorem b30_44 {xs : Nat → Int32} {xl : Nat} {I J : w_I} {b : Bool} {Q : Option Value → w_I → w_I → Bool → Prop} {u1 u2 : Option Value} {s0 : Int} (k : Q (some (w_i s0)) I J b) : w_T xs xl 30 44 [some (.ref 78), u1, u2] [] [w_i s0] I J b Q := by
  exact w_iret rfl rfl k
theorem e31 {xs : Nat → Int32} {xl : Nat} {I J : w_I} {b : Bool} {Q : Option Value → w_I → w_I → Bool → Prop} {a1 : Int} (t : w_T xs xl 31 0 [some (.ref 78), some (w_i a1)] [] [] I J b Q) : w_C xs xl 31 [.ref 78, w_i a1] I J b Q := w_en rfl t
theorem b31_0 {xs : Nat → Int32} {xl : Nat} {I J : w_I} {b : Bool} {Q : Option Value → w_I → w_I → Bool → Prop} {a1 : Int} (k : w_C xs xl 295 [.ref 80, w_i 0] I J b (fun v Ic Jc bc => w_T xs xl 31 11 [some (.ref 78), some (w_i a1)] [] (w_pv v []) Ic Jc bc Q)) : w_T xs xl 31 0 [some (.ref 78), some (w_i a1)] [] [] I J b Q := by
  refine w_aload_n (q := 1) rfl rfl rfl ?_
  refine w_gfr (q := 4) rfl rfl rfl rfl (j := 79) rfl ?_
  refine w_gfr (q := 7) rfl rfl rfl rfl (j := 80) rfl ?_
  refine w_iconst (q := 8) rfl rfl ?_
  refine w_call (q := 11) rfl rfl rfl rfl rfl ?_
  exact k
theorem b31_11 {xs : Nat → Int32} {xl : Nat} {I J : w_I} {b : Bool} {Q : Option Value → w_I → w_I → Bool → Prop} {l1 : Int} (k : w_C xs xl 96 [.ref 79, w_i 2] (w_U I 80 0 l1) J b (fun v Ic Jc bc => w_T xs xl 31 29 [some (.ref 78), some (w_i l1)] [] (w_pv v []) Ic Jc bc Q)) : w_T xs xl 31 11 [some (.ref 78), some (w_i l1)] [] [] I J b Q := by
  refine w_aload_n (q := 12) rfl rfl rfl ?_
  refine w_gfr (q := 15) rfl rfl rfl rfl (j := 79) rfl ?_
  refine w_gfr (q := 18) rfl rfl rfl rfl (j := 80) rfl ?_
  refine w_iconst (q := 19) rfl rfl ?_
  refine w_iload_n (q := 20) rfl rfl rfl ?_
  refine w_iast (q := 21) (n := 10) rfl rfl rfl rfl rfl (by decide) ?_
  refine w_aload_n (q := 22) rfl rfl rfl ?_
  refine w_gfr (q := 25) rfl rfl rfl rfl (j := 79) rfl ?_
  refine w_iconst (q := 26) rfl rfl ?_
  refine w_callv (q := 29) rfl rfl rfl rfl rfl rfl ?_
  exact k
theorem b31_29 {xs : Nat → Int32} {xl : Nat} {I J : w_I} {b : Bool} {Q : Option Value → w_I → w_I → Bool → Prop} {u1 : Option Value} {s0 : Int} (k : w_C xs xl 161 [w_i s0, w_i 9] I J b (fun v Ic Jc bc => w_T xs xl 31 34 [some (.ref 78), u1] [] (w_pv v []) Ic Jc bc Q)) : w_T xs xl 31 29 [some (.ref 78), u1] [] [w_i s0] I J b Q := by
  refine w_bipush (q := 31) rfl rfl rfl ?_
  refine w_call (q := 34) rfl rfl rfl rfl rfl ?_
  exact k
theorem b31_34 {xs : Nat → Int32} {xl : Nat} {I J : w_I} {b : Bool} {Q : Option Value → w_I → w_I → Bool → Prop} {u1 : Option Value} {s0 : Int} (k : Q (some (w_i s0)) I J b) : w_T xs xl 31 34 [some (.ref 78), u1] [] [w_i s0] I J b Q := by
  exact w_iret rfl rfl k
theorem e33 {xs : Nat → Int32} {xl : Nat} {I J : w_I} {b : Bool} {Q : Option Value → w_I → w_I → Bool → Prop} {a1 : Int} (t : w_T xs xl 33 0 [some (.ref 85), some (w_i a1), none, none, none] [] [] I J b Q) : w_C xs xl 33 [.ref 85, w_i a1] I J b Q := w_en rfl t
theorem b33_0 {xs : Nat → Int32} {xl : Nat} {I J : w_I} {b : Bool} {Q : Option Value → w_I → w_I → Bool → Prop} {a1 : Int} (k : w_C xs xl 21 [.ref 78] I J b (fun v Ic Jc bc => w_T xs xl 33 7 [some (.ref 85), some (w_i a1), none, none, none] [] (w_pv v []) Ic Jc bc Q)) : w_T xs xl 33 0 [some (.ref 85), some (w_i a1), none, none, none] [] [] I J b Q := by
  refine w_aload_n (q := 1) rfl rfl rfl ?_
  refine w_gfr (q := 4) rfl rfl rfl rfl (j := 78) rfl ?_
  refine w_callv (q := 7) rfl rfl rfl rfl rfl rfl ?_
  exact k
theorem b33_7 {xs : Nat → Int32} {xl : Nat} {I J : w_I} {b : Bool} {Q : Option Value → w_I → w_I → Bool → Prop} {l1 : Int} {u2 u3 u4 : Option Value} (k : w_C xs xl 23 [.ref 78, w_i l1] I J b (fun v Ic Jc bc => w_T xs xl 33 15 [some (.ref 85), some (w_i l1), u2, u3, u4] [] (w_pv v []) Ic Jc bc Q)) : w_T xs xl 33 7 [some (.ref 85), some (w_i l1), u2, u3, u4] [] [] I J b Q := by
  refine w_aload_n (q := 8) rfl rfl rfl ?_
  refine w_gfr (q := 11) rfl rfl rfl rfl (j := 78) rfl ?_
  refine w_iload_n (q := 12) rfl rfl rfl ?_
  refine w_callv (q := 15) rfl rfl rfl rfl rfl rfl ?_
  exact k
theorem b33_15 {xs : Nat → Int32} {xl : Nat} {I J : w_I} {b : Bool} {Q : Option Value → w_I → w_I → Bool → Prop} {u1 u2 u3 u4 : Option Value} (k : ((-2147483648 ≤ I 2 5 - I 78 6 ∧ I 2 5 - I 78 6 < 2147483648) ∧ ((I 2 5 - I 78 6 < 0 → Q (some (w_i 0)) I J b) ∧ (¬ I 2 5 - I 78 6 < 0 → w_C xs xl 104 [.ref 2] I J b (fun v Ic Jc bc => w_T xs xl 33 48 [some (.ref 85), u1, some (w_i (I 2 5 - I 78 6)), u3, u4] [] (w_pv v []) Ic Jc bc Q))))) : w_T xs xl 33 15 [some (.ref 85), u1, u2, u3, u4] [] [] I J b Q := by
  refine w_aload_n (q := 16) rfl rfl rfl ?_
  refine w_gfr (q := 19) rfl rfl rfl rfl (j := 78) rfl ?_
  refine w_gfr (q := 22) rfl rfl rfl rfl (j := 2) rfl ?_
  refine w_gfi (q := 25) (k' := 5) (v := I 2 5) rfl rfl rfl rfl rfl rfl rfl ?_
  refine w_aload_n (q := 26) rfl rfl rfl ?_
  refine w_gfr (q := 29) rfl rfl rfl rfl (j := 78) rfl ?_
  refine w_gfi (q := 32) (k' := 6) (v := I 78 6) rfl rfl rfl rfl rfl rfl rfl ?_
  refine w_isub (q := 33) rfl rfl ?_
  refine w_istore_n (q := 34) (L' := [some (.ref 85), u1, some (w_i (I 2 5 - I 78 6)), u3, u4]) (M' := []) rfl rfl rfl rfl rfl ?_
  refine w_iload_n (q := 35) rfl rfl rfl ?_
  obtain ⟨h1, k⟩ := k
  refine w_zlt (t := 51) (q := 38) rfl rfl rfl h1 (fun c2 => ?_) (fun c2 => ?_)
  · replace k := k.1 c2
    refine w_iconst (q := 52) rfl rfl ?_
    refine w_iret rfl rfl k
  · replace k := k.2 c2
    refine w_aload_n (q := 39) rfl rfl rfl ?_
    refine w_gfr (q := 42) rfl rfl rfl rfl (j := 78) rfl ?_
    refine w_gfr (q := 45) rfl rfl rfl rfl (j := 2) rfl ?_
    refine w_callv (q := 48) rfl rfl rfl rfl rfl rfl ?_
    exact k
theorem b33_48 {xs : Nat → Int32} {xl : Nat} {I J : w_I} {b : Bool} {Q : Option Value → w_I → w_I → Bool → Prop} {u1 u3 u4 : Option Value} {l2 s0 : Int} (k : ((-2147483648 ≤ s0 ∧ s0 < 2147483648) ∧ ((s0 = 0 → w_C xs xl 295 [.ref 86, w_i 0] I J b (fun v Ic Jc bc => w_T xs xl 33 61 [some (.ref 85), u1, some (w_i l2), u3, u4] [] (w_pv v []) Ic Jc bc Q)) ∧ (¬ s0 = 0 → Q (some (w_i 0)) I J b)))) : w_T xs xl 33 48 [some (.ref 85), u1, some (w_i l2), u3, u4] [] [w_i s0] I J b Q := by
  obtain ⟨h1, k⟩ := k
  refine w_zeq (t := 53) (q := 51) rfl rfl rfl h1 (fun c2 => ?_) (fun c2 => ?_)
  · replace k := k.1 c2
    refine w_aload_n (q := 54) rfl rfl rfl ?_
    refine w_gfr (q := 57) rfl rfl rfl rfl (j := 86) rfl ?_
    refine w_iconst (q := 58) rfl rfl ?_
    refine w_call (q := 61) rfl rfl rfl rfl rfl ?_
    exact k
  · replace k := k.2 c2
    refine w_iconst (q := 52) rfl rfl ?_
    refine w_iret rfl rfl k
theorem b33_61 {xs : Nat → Int32} {xl : Nat} {I J : w_I} {b : Bool} {Q : Option Value → w_I → w_I → Bool → Prop} {u1 u3 u4 : Option Value} {l2 : Int} (k : w_T xs xl 33 71 [some (.ref 85), u1, some (w_i l2), some (w_i (I 78 6 - 1)), u4] [] [] I J b Q) : w_T xs xl 33 61 [some (.ref 85), u1, some (w_i l2), u3, u4] [] [] I J b Q := by
  refine w_aload_n (q := 62) rfl rfl rfl ?_
  refine w_gfr (q := 65) rfl rfl rfl rfl (j := 78) rfl ?_
  refine w_gfi (q := 68) (k' := 6) (v := I 78 6) rfl rfl rfl rfl rfl rfl rfl ?_
  refine w_iconst (q := 69) rfl rfl ?_
  refine w_isub (q := 70) rfl rfl ?_
  refine w_istore_n (q := 71) (L' := [some (.ref 85), u1, some (w_i l2), some (w_i (I 78 6 - 1)), u4]) (M' := []) rfl rfl rfl rfl rfl ?_
  exact k
theorem b33_71 {xs : Nat → Int32} {xl : Nat} {I J : w_I} {b : Bool} {Q : Option Value → w_I → w_I → Bool → Prop} {u1 u4 : Option Value} {l2 l3 : Int} (k : ((-2147483648 ≤ l3 ∧ l3 < 2147483648) ∧ ((l3 < 0 → (((0 : Int) ≤ I 86 0 ∧ I 86 0 < 2147483648 ∧ (0 : Int) < 262144 ∧ 262144 < (2147483648 : Int)) ∧ w_T xs xl 33 118 [some (.ref 85), u1, some (w_i l2), some (w_i 0), some (w_i 0)] [] [] (w_U (w_U I 85 4 (I 86 0 / 262144)) 85 5 (I 86 0 % 262144)) J b Q)) ∧ (¬ l3 < 0 → w_C xs xl 34 [.ref 85, w_i l3, w_i l2] I J b (fun v Ic Jc bc => w_T xs xl 33 81 [some (.ref 85), u1, some (w_i l2), some (w_i l3), u4] [] (w_pv v []) Ic Jc bc Q))))) : w_T xs xl 33 71 [some (.ref 85), u1, some (w_i l2), some (w_i l3), u4] [] [] I J b Q := by
  refine w_iload_n (q := 72) rfl rfl rfl ?_
  obtain ⟨h1, k⟩ := k
  refine w_zlt (t := 87) (q := 75) rfl rfl rfl h1 (fun c2 => ?_) (fun c2 => ?_)
  · replace k := k.1 c2
    refine w_aload_n (q := 88) rfl rfl rfl ?_
    refine w_aload_n (q := 89) rfl rfl rfl ?_
    refine w_gfr (q := 92) rfl rfl rfl rfl (j := 86) rfl ?_
    refine w_iconst (q := 93) rfl rfl ?_
    refine w_iald (q := 94) (n := 25) (v := I 86 0) rfl rfl rfl rfl rfl rfl (by decide) ?_
    refine w_ldc (q := 96) (n := 262144) rfl rfl rfl ?_
    obtain ⟨h3, k⟩ := k
    refine w_idiv (q := 97) rfl rfl h3 ?_
    refine w_pfi (q := 100) (k' := 4) rfl rfl rfl rfl ?_
    refine w_aload_n (q := 101) rfl rfl rfl ?_
    refine w_aload_n (q := 102) rfl rfl rfl ?_
    refine w_gfr (q := 105) rfl rfl rfl rfl (j := 86) rfl ?_
    refine w_iconst (q := 106) rfl rfl ?_
    refine w_iald (q := 107) (n := 25) (v := I 86 0) rfl rfl rfl rfl rfl rfl (by decide) ?_
    refine w_ldc (q := 109) (n := 262144) rfl rfl rfl ?_
    refine w_irem (q := 110) rfl rfl h3 ?_
    refine w_pfi (q := 113) (k' := 5) rfl rfl rfl rfl ?_
    refine w_iconst (q := 114) rfl rfl ?_
    refine w_istore_n (q := 115) (L' := [some (.ref 85), u1, some (w_i l2), some (w_i 0), u4]) (M' := []) rfl rfl rfl rfl rfl ?_
    refine w_iconst (q := 116) rfl rfl ?_
    refine w_istore (q := 118) (L' := [some (.ref 85), u1, some (w_i l2), some (w_i 0), some (w_i 0)]) (M' := []) rfl rfl rfl rfl rfl ?_
    exact k
  · replace k := k.2 c2
    refine w_aload_n (q := 76) rfl rfl rfl ?_
    refine w_iload_n (q := 77) rfl rfl rfl ?_
    refine w_iload_n (q := 78) rfl rfl rfl ?_
    refine w_callv (q := 81) rfl rfl rfl rfl rfl rfl ?_
    exact k
theorem b33_118 {xs : Nat → Int32} {xl : Nat} {I J : w_I} {b : Bool} {Q : Option Value → w_I → w_I → Bool → Prop} {u1 : Option Value} {l2 l3 l4 : Int} (k : ((-2147483648 ≤ l4 ∧ l4 < 2147483648) ∧ (-2147483648 ≤ I 78 6 ∧ I 78 6 < 2147483648) ∧ ((I 78 6 ≤ l4 → Q (some (w_i 1)) I J b) ∧ (¬ I 78 6 ≤ l4 → ((0 ≤ l4 * (l2 + 1) + l3 ∧ l4 * (l2 + 1) + l3 < 156) ∧ ((0 ≤ l4 ∧ l4 < 24) ∧ w_T xs xl 33 118 [some (.ref 85), u1, some (w_i l2), some (w_i (I 87 (l4 * (l2 + 1) + l3))), some (w_i (l4 + 1))] [] [] (w_U I 88 l4 (l4 + I 87 (l4 * (l2 + 1) + l3))) J b Q)))))) : w_T xs xl 33 118 [some (.ref 85), u1, some (w_i l2), some (w_i l3), some (w_i l4)] [] [] I J b Q := by
  refine w_iload (q := 120) rfl rfl rfl ?_
  refine w_aload_n (q := 121) rfl rfl rfl ?_
  refine w_gfr (q := 124) rfl rfl rfl rfl (j := 78) rfl ?_
  refine w_gfi (q := 127) (k' := 6) (v := I 78 6) rfl rfl rfl rfl rfl rfl rfl ?_
  obtain ⟨h1, h2, k⟩ := k
  refine w_cge (t := 161) (q := 130) rfl rfl rfl h1 h2 (fun c3 => ?_) (fun c3 => ?_)
  · replace k := k.1 c3
    refine w_iconst (q := 162) rfl rfl ?_
    refine w_iret rfl rfl k
  · replace k := k.2 c3
    refine w_aload_n (q := 131) rfl rfl rfl ?_
    refine w_gfr (q := 134) rfl rfl rfl rfl (j := 87) rfl ?_
    refine w_iload (q := 136) rfl rfl rfl ?_
    refine w_iload_n (q := 137) rfl rfl rfl ?_
    refine w_iconst (q := 138) rfl rfl ?_
    refine w_iadd (q := 139) rfl rfl ?_
    refine w_imul (q := 140) rfl rfl ?_
    refine w_iload_n (q := 141) rfl rfl rfl ?_
    refine w_iadd (q := 142) rfl rfl ?_
    obtain ⟨h4, k⟩ := k
    refine w_iald (q := 143) (n := 156) (v := I 87 (l4 * (l2 + 1) + l3)) rfl rfl rfl rfl rfl rfl h4 ?_
    refine w_istore_n (q := 144) (L' := [some (.ref 85), u1, some (w_i l2), some (w_i (I 87 (l4 * (l2 + 1) + l3))), some (w_i l4)]) (M' := []) rfl rfl rfl rfl rfl ?_
    refine w_aload_n (q := 145) rfl rfl rfl ?_
    refine w_gfr (q := 148) rfl rfl rfl rfl (j := 88) rfl ?_
    refine w_iload (q := 150) rfl rfl rfl ?_
    refine w_iload (q := 152) rfl rfl rfl ?_
    refine w_iload_n (q := 153) rfl rfl rfl ?_
    refine w_iadd (q := 154) rfl rfl ?_
    obtain ⟨h5, k⟩ := k
    refine w_iast (q := 155) (n := 24) rfl rfl rfl rfl rfl h5 ?_
    refine w_iinc (q := 158) (L' := [some (.ref 85), u1, some (w_i l2), some (w_i (I 87 (l4 * (l2 + 1) + l3))), some (w_i (l4 + 1))]) (M' := []) rfl rfl rfl rfl rfl rfl ?_
    refine w_goto (t := 118) rfl rfl ?_
    exact k
theorem b33_81 {xs : Nat → Int32} {xl : Nat} {I J : w_I} {b : Bool} {Q : Option Value → w_I → w_I → Bool → Prop} {u1 u4 : Option Value} {l2 l3 : Int} (k : w_T xs xl 33 71 [some (.ref 85), u1, some (w_i l2), some (w_i (l3 + (-1))), u4] [] [] I J b Q) : w_T xs xl 33 81 [some (.ref 85), u1, some (w_i l2), some (w_i l3), u4] [] [] I J b Q := by
  refine w_iinc (q := 84) (L' := [some (.ref 85), u1, some (w_i l2), some (w_i (l3 + (-1))), u4]) (M' := []) rfl rfl rfl rfl rfl rfl ?_
  refine w_goto (t := 71) rfl rfl ?_
  exact k
theorem e34 {xs : Nat → Int32} {xl : Nat} {I J : w_I} {b : Bool} {Q : Option Value → w_I → w_I → Bool → Prop} {a1 a2 : Int} (t : w_T xs xl 34 0 [some (.ref 85), some (w_i a1), some (w_i a2), none, none, none, none, none, none] [] [] I J b Q) : w_C xs xl 34 [.ref 85, w_i a1, w_i a2] I J b Q := w_en rfl t
theorem b34_0 {xs : Nat → Int32} {xl : Nat} {I J : w_I} {b : Bool} {Q : Option Value → w_I → w_I → Bool → Prop} {a1 a2 : Int} (k : ((0 ≤ a1 ∧ a1 < 25) ∧ ((0 ≤ I 84 a1 ∧ I 84 a1 < 30) ∧ w_T xs xl 34 35 [some (.ref 85), some (w_i a1), some (w_i a2), some (w_i (a1 * (a2 + 1))), some (w_i (I 84 a1)), some (w_i (I 28 (I 84 a1))), some (w_i a2), none, none] [] [] I J b Q))) : w_T xs xl 34 0 [some (.ref 85), some (w_i a1), some (w_i a2), none, none, none, none, none, none] [] [] I J b Q := by
  refine w_iload_n (q := 1) rfl rfl rfl ?_
  refine w_iload_n (q := 2) rfl rfl rfl ?_
  refine w_iconst (q := 3) rfl rfl ?_
  refine w_iadd (q := 4) rfl rfl ?_
  refine w_imul (q := 5) rfl rfl ?_
  refine w_istore_n (q := 6) (L' := [some (.ref 85), some (w_i a1), some (w_i a2), some (w_i (a1 * (a2 + 1))), none, none, none, none, none]) (M' := []) rfl rfl rfl rfl rfl ?_
  refine w_aload_n (q := 7) rfl rfl rfl ?_
  refine w_gfr (q := 10) rfl rfl rfl rfl (j := 78) rfl ?_
  refine w_gfr (q := 13) rfl rfl rfl rfl (j := 84) rfl ?_
  refine w_iload_n (q := 14) rfl rfl rfl ?_
  obtain ⟨h1, k⟩ := k
  refine w_iald (q := 15) (n := 25) (v := I 84 a1) rfl rfl rfl rfl rfl rfl h1 ?_
  refine w_istore (q := 17) (L' := [some (.ref 85), some (w_i a1), some (w_i a2), some (w_i (a1 * (a2 + 1))), some (w_i (I 84 a1)), none, none, none, none]) (M' := []) rfl rfl rfl rfl rfl ?_
  refine w_aload_n (q := 18) rfl rfl rfl ?_
  refine w_gfr (q := 21) rfl rfl rfl rfl (j := 78) rfl ?_
  refine w_gfr (q := 24) rfl rfl rfl rfl (j := 20) rfl ?_
  refine w_gfr (q := 27) rfl rfl rfl rfl (j := 28) rfl ?_
  refine w_iload (q := 29) rfl rfl rfl ?_
  obtain ⟨h2, k⟩ := k
  refine w_iald (q := 30) (n := 30) (v := I 28 (I 84 a1)) rfl rfl rfl rfl rfl rfl h2 ?_
  refine w_istore (q := 32) (L' := [some (.ref 85), some (w_i a1), some (w_i a2), some (w_i (a1 * (a2 + 1))), some (w_i (I 84 a1)), some (w_i (I 28 (I 84 a1))), none, none, none]) (M' := []) rfl rfl rfl rfl rfl ?_
  refine w_iload_n (q := 33) rfl rfl rfl ?_
  refine w_istore (q := 35) (L' := [some (.ref 85), some (w_i a1), some (w_i a2), some (w_i (a1 * (a2 + 1))), some (w_i (I 84 a1)), some (w_i (I 28 (I 84 a1))), some (w_i a2), none, none]) (M' := []) rfl rfl rfl rfl rfl ?_
  exact k
theorem b34_35 {xs : Nat → Int32} {xl : Nat} {I J : w_I} {b : Bool} {Q : Option Value → w_I → w_I → Bool → Prop} {l1 l2 l3 l4 l5 l6 : Int} {u7 u8 : Option Value} (k : ((-2147483648 ≤ l6 ∧ l6 < 2147483648) ∧ ((l6 < 0 → Q none I J b) ∧ (¬ l6 < 0 → ((0 ≤ l6 ∧ l6 < 25) ∧ ((-2147483648 ≤ l5 ∧ l5 < 2147483648) ∧ (-2147483648 ≤ l1 + l6 ∧ l1 + l6 < 2147483648) ∧ ((l5 = l1 + l6 → ((-2147483648 ≤ l2 ∧ l2 < 2147483648) ∧ ((l2 ≤ l6 → ((0 ≤ l3 + l6 ∧ l3 + l6 < 156) ∧ w_T xs xl 34 35 [some (.ref 85), some (w_i l1), some (w_i l2), some (w_i l3), some (w_i l4), some (w_i l5), some (w_i (l6 + (-1))), some (w_i (I 86 l6)), some (w_i 0)] [] [] (w_U (w_U I 86 l6 (I 86 l6)) 87 (l3 + l6) l6) J b Q)) ∧ (¬ l2 ≤ l6 → ((0 ≤ l6 + 1 ∧ l6 + 1 < 25) ∧ ((-2147483648 ≤ I 86 (l6 + 1) ∧ I 86 (l6 + 1) < 2147483648) ∧ (-2147483648 ≤ I 86 l6 ∧ I 86 l6 < 2147483648) ∧ ((I 86 l6 ≤ I 86 (l6 + 1) → ((0 ≤ l3 + l6 ∧ l3 + l6 < 156) ∧ w_T xs xl 34 35 [some (.ref 85), some (w_i l1), some (w_i l2), some (w_i l3), some (w_i l4), some (w_i l5), some (w_i (l6 + (-1))), some (w_i (I 86 l6)), some (w_i 0)] [] [] (w_U (w_U I 86 l6 (I 86 l6)) 87 (l3 + l6) l6) J b Q)) ∧ (¬ I 86 l6 ≤ I 86 (l6 + 1) → ((0 ≤ l3 + l6 + 1 ∧ l3 + l6 + 1 < 156) ∧ ((0 ≤ l3 + l6 ∧ l3 + l6 < 156) ∧ w_T xs xl 34 35 [some (.ref 85), some (w_i l1), some (w_i l2), some (w_i l3), some (w_i l4), some (w_i l5), some (w_i (l6 + (-1))), some (w_i (I 86 l6)), some (w_i 1)] [] [] (w_U (w_U I 86 l6 (I 86 (l6 + 1))) 87 (l3 + l6) (I 87 (l3 + l6 + 1))) J b Q)))))))))) ∧ (¬ l5 = l1 + l6 → w_C xs xl 29 [.ref 78, w_i l4, w_i (l1 + l6)] I J b (fun v Ic Jc bc => w_T xs xl 34 73 [some (.ref 85), some (w_i l1), some (w_i l2), some (w_i l3), some (w_i l4), some (w_i l5), some (w_i l6), some (w_i (I 86 l6)), u8] [] (w_pv v [w_i (I 86 l6)]) Ic Jc bc Q))))))))) : w_T xs xl 34 35 [some (.ref 85), some (w_i l1), some (w_i l2), some (w_i l3), some (w_i l4), some (w_i l5), some (w_i l6), u7, u8] [] [] I J b Q := by
  refine w_iload (q := 37) rfl rfl rfl ?_
  obtain ⟨h1, k⟩ := k
  refine w_zlt (t := 178) (q := 40) rfl rfl rfl h1 (fun c2 => ?_) (fun c2 => ?_)
  · replace k := k.1 c2
    exact w_vret rfl k
  · replace k := k.2 c2
    refine w_aload_n (q := 41) rfl rfl rfl ?_
    refine w_gfr (q := 44) rfl rfl rfl rfl (j := 86) rfl ?_
    refine w_iload (q := 46) rfl rfl rfl ?_
    obtain ⟨h3, k⟩ := k
    refine w_iald (q := 47) (n := 25) (v := I 86 l6) rfl rfl rfl rfl rfl rfl h3 ?_
    refine w_istore (q := 49) (L' := [some (.ref 85), some (w_i l1), some (w_i l2), some (w_i l3), some (w_i l4), some (w_i l5), some (w_i l6), some (w_i (I 86 l6)), u8]) (M' := []) rfl rfl rfl rfl rfl ?_
    refine w_iload (q := 51) rfl rfl rfl ?_
    refine w_iload_n (q := 52) rfl rfl rfl ?_
    refine w_iload (q := 54) rfl rfl rfl ?_
    refine w_iadd (q := 55) rfl rfl ?_
    obtain ⟨h4, h5, k⟩ := k
    refine w_ceq (t := 89) (q := 58) rfl rfl rfl h4 h5 (fun c6 => ?_) (fun c6 => ?_)
    · replace k := k.1 c6
      refine w_iload (q := 91) rfl rfl rfl ?_
      refine w_iload_n (q := 92) rfl rfl rfl ?_
      obtain ⟨h7, k⟩ := k
      refine w_cge (t := 113) (q := 95) rfl rfl rfl h1 h7 (fun c8 => ?_) (fun c8 => ?_)
      · replace k := k.1 c8
        refine w_iconst (q := 114) rfl rfl ?_
        refine w_istore (q := 116) (L' := [some (.ref 85), some (w_i l1), some (w_i l2), some (w_i l3), some (w_i l4), some (w_i l5), some (w_i l6), some (w_i (I 86 l6)), some (w_i 0)]) (M' := []) rfl rfl rfl rfl rfl ?_
        refine w_aload_n (q := 117) rfl rfl rfl ?_
        refine w_gfr (q := 120) rfl rfl rfl rfl (j := 86) rfl ?_
        refine w_iload (q := 122) rfl rfl rfl ?_
        refine w_iload (q := 124) rfl rfl rfl ?_
        refine w_zeq (t := 139) (q := 127) rfl rfl rfl (by decide) (fun _ => ?_) (fun w => absurd w (by decide))
        refine w_iload (q := 141) rfl rfl rfl ?_
        refine w_iast (q := 142) (n := 25) rfl rfl rfl rfl rfl h3 ?_
        refine w_aload_n (q := 143) rfl rfl rfl ?_
        refine w_gfr (q := 146) rfl rfl rfl rfl (j := 87) rfl ?_
        refine w_iload_n (q := 147) rfl rfl rfl ?_
        refine w_iload (q := 149) rfl rfl rfl ?_
        refine w_iadd (q := 150) rfl rfl ?_
        refine w_iload (q := 152) rfl rfl rfl ?_
        refine w_zeq (t := 169) (q := 155) rfl rfl rfl (by decide) (fun _ => ?_) (fun w => absurd w (by decide))
        refine w_iload (q := 171) rfl rfl rfl ?_
        obtain ⟨h9, k⟩ := k
        refine w_iast (q := 172) (n := 156) rfl rfl rfl rfl rfl h9 ?_
        refine w_iinc (q := 175) (L' := [some (.ref 85), some (w_i l1), some (w_i l2), some (w_i l3), some (w_i l4), some (w_i l5), some (w_i (l6 + (-1))), some (w_i (I 86 l6)), some (w_i 0)]) (M' := []) rfl rfl rfl rfl rfl rfl ?_
        refine w_goto (t := 35) rfl rfl ?_
        exact k
      · replace k := k.2 c8
        refine w_aload_n (q := 96) rfl rfl rfl ?_
        refine w_gfr (q := 99) rfl rfl rfl rfl (j := 86) rfl ?_
        refine w_iload (q := 101) rfl rfl rfl ?_
        refine w_iconst (q := 102) rfl rfl ?_
        refine w_iadd (q := 103) rfl rfl ?_
        obtain ⟨h10, k⟩ := k
        refine w_iald (q := 104) (n := 25) (v := I 86 (l6 + 1)) rfl rfl rfl rfl rfl rfl h10 ?_
        refine w_iload (q := 106) rfl rfl rfl ?_
        obtain ⟨h11, h12, k⟩ := k
        refine w_cge (t := 113) (q := 109) rfl rfl rfl h11 h12 (fun c13 => ?_) (fun c13 => ?_)
        · replace k := k.1 c13
          refine w_iconst (q := 114) rfl rfl ?_
          refine w_istore (q := 116) (L' := [some (.ref 85), some (w_i l1), some (w_i l2), some (w_i l3), some (w_i l4), some (w_i l5), some (w_i l6), some (w_i (I 86 l6)), some (w_i 0)]) (M' := []) rfl rfl rfl rfl rfl ?_
          refine w_aload_n (q := 117) rfl rfl rfl ?_
          refine w_gfr (q := 120) rfl rfl rfl rfl (j := 86) rfl ?_
          refine w_iload (q := 122) rfl rfl rfl ?_
          refine w_iload (q := 124) rfl rfl rfl ?_
          refine w_zeq (t := 139) (q := 127) rfl rfl rfl (by decide) (fun _ => ?_) (fun w => absurd w (by decide))
          refine w_iload (q := 141) rfl rfl rfl ?_
          refine w_iast (q := 142) (n := 25) rfl rfl rfl rfl rfl h3 ?_
          refine w_aload_n (q := 143) rfl rfl rfl ?_
          refine w_gfr (q := 146) rfl rfl rfl rfl (j := 87) rfl ?_
          refine w_iload_n (q := 147) rfl rfl rfl ?_
          refine w_iload (q := 149) rfl rfl rfl ?_
          refine w_iadd (q := 150) rfl rfl ?_
          refine w_iload (q := 152) rfl rfl rfl ?_
          refine w_zeq (t := 169) (q := 155) rfl rfl rfl (by decide) (fun _ => ?_) (fun w => absurd w (by decide))
          refine w_iload (q := 171) rfl rfl rfl ?_
          obtain ⟨h14, k⟩ := k
          refine w_iast (q := 172) (n := 156) rfl rfl rfl rfl rfl h14 ?_
          refine w_iinc (q := 175) (L' := [some (.ref 85), some (w_i l1), some (w_i l2), some (w_i l3), some (w_i l4), some (w_i l5), some (w_i (l6 + (-1))), some (w_i (I 86 l6)), some (w_i 0)]) (M' := []) rfl rfl rfl rfl rfl rfl ?_
          refine w_goto (t := 35) rfl rfl ?_
          exact k
        · replace k := k.2 c13
          refine w_iconst (q := 110) rfl rfl ?_
          refine w_goto (t := 114) rfl rfl ?_
          refine w_istore (q := 116) (L' := [some (.ref 85), some (w_i l1), some (w_i l2), some (w_i l3), some (w_i l4), some (w_i l5), some (w_i l6), some (w_i (I 86 l6)), some (w_i 1)]) (M' := []) rfl rfl rfl rfl rfl ?_
          refine w_aload_n (q := 117) rfl rfl rfl ?_
          refine w_gfr (q := 120) rfl rfl rfl rfl (j := 86) rfl ?_
          refine w_iload (q := 122) rfl rfl rfl ?_
          refine w_iload (q := 124) rfl rfl rfl ?_
          refine w_zeq (t := 139) (q := 127) rfl rfl rfl (by decide) (fun w => absurd w (by decide)) (fun _ => ?_)
          refine w_aload_n (q := 128) rfl rfl rfl ?_
          refine w_gfr (q := 131) rfl rfl rfl rfl (j := 86) rfl ?_
          refine w_iload (q := 133) rfl rfl rfl ?_
          refine w_iconst (q := 134) rfl rfl ?_
          refine w_iadd (q := 135) rfl rfl ?_
          refine w_iald (q := 136) (n := 25) (v := I 86 (l6 + 1)) rfl rfl rfl rfl rfl rfl h10 ?_
          refine w_goto (t := 141) rfl rfl ?_
          refine w_iast (q := 142) (n := 25) rfl rfl rfl rfl rfl h3 ?_
          refine w_aload_n (q := 143) rfl rfl rfl ?_
          refine w_gfr (q := 146) rfl rfl rfl rfl (j := 87) rfl ?_
          refine w_iload_n (q := 147) rfl rfl rfl ?_
          refine w_iload (q := 149) rfl rfl rfl ?_
          refine w_iadd (q := 150) rfl rfl ?_
          refine w_iload (q := 152) rfl rfl rfl ?_
          refine w_zeq (t := 169) (q := 155) rfl rfl rfl (by decide) (fun w => absurd w (by decide)) (fun _ => ?_)
          refine w_aload_n (q := 156) rfl rfl rfl ?_
          refine w_gfr (q := 159) rfl rfl rfl rfl (j := 87) rfl ?_
          refine w_iload_n (q := 160) rfl rfl rfl ?_
          refine w_iload (q := 162) rfl rfl rfl ?_
          refine w_iadd (q := 163) rfl rfl ?_
          refine w_iconst (q := 164) rfl rfl ?_
          refine w_iadd (q := 165) rfl rfl ?_
          obtain ⟨h15, k⟩ := k
          refine w_iald (q := 166) (n := 156) (v := I 87 (l3 + l6 + 1)) rfl rfl rfl rfl rfl rfl h15 ?_
          refine w_goto (t := 171) rfl rfl ?_
          obtain ⟨h16, k⟩ := k
          refine w_iast (q := 172) (n := 156) rfl rfl rfl rfl rfl h16 ?_
          refine w_iinc (q := 175) (L' := [some (.ref 85), some (w_i l1), some (w_i l2), some (w_i l3), some (w_i l4), some (w_i l5), some (w_i (l6 + (-1))), some (w_i (I 86 l6)), some (w_i 1)]) (M' := []) rfl rfl rfl rfl rfl rfl ?_
          refine w_goto (t := 35) rfl rfl ?_
          exact k
    · replace k := k.2 c6
      refine w_iload (q := 60) rfl rfl rfl ?_
      refine w_aload_n (q := 61) rfl rfl rfl ?_
      refine w_gfr (q := 64) rfl rfl rfl rfl (j := 78) rfl ?_
      refine w_iload (q := 66) rfl rfl rfl ?_
      refine w_iload_n (q := 67) rfl rfl rfl ?_
      refine w_iload (q := 69) rfl rfl rfl ?_
      refine w_iadd (q := 70) rfl rfl ?_
      refine w_callv (q := 73) rfl rfl rfl rfl rfl rfl ?_
      exact k
theorem b34_73 {xs : Nat → Int32} {xl : Nat} {I J : w_I} {b : Bool} {Q : Option Value → w_I → w_I → Bool → Prop} {l1 l2 l3 l4 l5 l6 s0 s1 : Int} {u7 u8 : Option Value} (k : ((-2147483648 ≤ l5 ∧ l5 < 2147483648) ∧ ((¬ l5 = (-1) → ((-2147483648 ≤ l6 ∧ l6 < 2147483648) ∧ (-2147483648 ≤ l2 ∧ l2 < 2147483648) ∧ ((l2 ≤ l6 → ((0 ≤ l6 ∧ l6 < 25) ∧ ((0 ≤ l3 + l6 ∧ l3 + l6 < 156) ∧ w_T xs xl 34 35 [some (.ref 85), some (w_i l1), some (w_i l2), some (w_i l3), some (w_i l4), some (w_i l5), some (w_i (l6 + (-1))), some (w_i (s0 + (s1 + 262144))), some (w_i 0)] [] [] (w_U (w_U I 86 l6 (s0 + (s1 + 262144))) 87 (l3 + l6) l6) J b Q))) ∧ (¬ l2 ≤ l6 → ((0 ≤ l6 + 1 ∧ l6 + 1 < 25) ∧ ((-2147483648 ≤ I 86 (l6 + 1) ∧ I 86 (l6 + 1) < 2147483648) ∧ (-2147483648 ≤ s0 + (s1 + 262144) ∧ s0 + (s1 + 262144) < 2147483648) ∧ ((s0 + (s1 + 262144) ≤ I 86 (l6 + 1) → ((0 ≤ l6 ∧ l6 < 25) ∧ ((0 ≤ l3 + l6 ∧ l3 + l6 < 156) ∧ w_T xs xl 34 35 [some (.ref 85), some (w_i l1), some (w_i l2), some (w_i l3), some (w_i l4), some (w_i l5), some (w_i (l6 + (-1))), some (w_i (s0 + (s1 + 262144))), some (w_i 0)] [] [] (w_U (w_U I 86 l6 (s0 + (s1 + 262144))) 87 (l3 + l6) l6) J b Q))) ∧ (¬ s0 + (s1 + 262144) ≤ I 86 (l6 + 1) → ((0 ≤ l6 ∧ l6 < 25) ∧ ((0 ≤ l3 + l6 + 1 ∧ l3 + l6 + 1 < 156) ∧ ((0 ≤ l3 + l6 ∧ l3 + l6 < 156) ∧ w_T xs xl 34 35 [some (.ref 85), some (w_i l1), some (w_i l2), some (w_i l3), some (w_i l4), some (w_i l5), some (w_i (l6 + (-1))), some (w_i (s0 + (s1 + 262144))), some (w_i 1)] [] [] (w_U (w_U I 86 l6 (I 86 (l6 + 1))) 87 (l3 + l6) (I 87 (l3 + l6 + 1))) J b Q))))))))))) ∧ (l5 = (-1) → ((-2147483648 ≤ l6 ∧ l6 < 2147483648) ∧ (-2147483648 ≤ l2 ∧ l2 < 2147483648) ∧ ((l2 ≤ l6 → ((0 ≤ l6 ∧ l6 < 25) ∧ ((0 ≤ l3 + l6 ∧ l3 + l6 < 156) ∧ w_T xs xl 34 35 [some (.ref 85), some (w_i l1), some (w_i l2), some (w_i l3), some (w_i l4), some (w_i l5), some (w_i (l6 + (-1))), some (w_i (s0 + (s1 + 0))), some (w_i 0)] [] [] (w_U (w_U I 86 l6 (s0 + (s1 + 0))) 87 (l3 + l6) l6) J b Q))) ∧ (¬ l2 ≤ l6 → ((0 ≤ l6 + 1 ∧ l6 + 1 < 25) ∧ ((-2147483648 ≤ I 86 (l6 + 1) ∧ I 86 (l6 + 1) < 2147483648) ∧ (-2147483648 ≤ s0 + (s1 + 0) ∧ s0 + (s1 + 0) < 2147483648) ∧ ((s0 + (s1 + 0) ≤ I 86 (l6 + 1) → ((0 ≤ l6 ∧ l6 < 25) ∧ ((0 ≤ l3 + l6 ∧ l3 + l6 < 156) ∧ w_T xs xl 34 35 [some (.ref 85), some (w_i l1), some (w_i l2), some (w_i l3), some (w_i l4), some (w_i l5), some (w_i (l6 + (-1))), some (w_i (s0 + (s1 + 0))), some (w_i 0)] [] [] (w_U (w_U I 86 l6 (s0 + (s1 + 0))) 87 (l3 + l6) l6) J b Q))) ∧ (¬ s0 + (s1 + 0) ≤ I 86 (l6 + 1) → ((0 ≤ l6 ∧ l6 < 25) ∧ ((0 ≤ l3 + l6 + 1 ∧ l3 + l6 + 1 < 156) ∧ ((0 ≤ l3 + l6 ∧ l3 + l6 < 156) ∧ w_T xs xl 34 35 [some (.ref 85), some (w_i l1), some (w_i l2), some (w_i l3), some (w_i l4), some (w_i l5), some (w_i (l6 + (-1))), some (w_i (s0 + (s1 + 0))), some (w_i 1)] [] [] (w_U (w_U I 86 l6 (I 86 (l6 + 1))) 87 (l3 + l6) (I 87 (l3 + l6 + 1))) J b Q)))))))))))))) : w_T xs xl 34 73 [some (.ref 85), some (w_i l1), some (w_i l2), some (w_i l3), some (w_i l4), some (w_i l5), some (w_i l6), u7, u8] [] [w_i s1, w_i s0] I J b Q := by
  refine w_iload (q := 75) rfl rfl rfl ?_
  refine w_iconst (q := 76) rfl rfl ?_
  obtain ⟨h1, k⟩ := k
  refine w_cne (t := 83) (q := 79) rfl rfl rfl h1 (by decide) (fun c2 => ?_) (fun c2 => ?_)
  · replace k := k.1 c2
    refine w_ldc (q := 85) (n := 262144) rfl rfl rfl ?_
    refine w_iadd (q := 86) rfl rfl ?_
    refine w_iadd (q := 87) rfl rfl ?_
    refine w_istore (q := 89) (L' := [some (.ref 85), some (w_i l1), some (w_i l2), some (w_i l3), some (w_i l4), some (w_i l5), some (w_i l6), some (w_i (s0 + (s1 + 262144))), u8]) (M' := []) rfl rfl rfl rfl rfl ?_
    refine w_iload (q := 91) rfl rfl rfl ?_
    refine w_iload_n (q := 92) rfl rfl rfl ?_
    obtain ⟨h3, h4, k⟩ := k
    refine w_cge (t := 113) (q := 95) rfl rfl rfl h3 h4 (fun c5 => ?_) (fun c5 => ?_)
    · replace k := k.1 c5
      refine w_iconst (q := 114) rfl rfl ?_
      refine w_istore (q := 116) (L' := [some (.ref 85), some (w_i l1), some (w_i l2), some (w_i l3), some (w_i l4), some (w_i l5), some (w_i l6), some (w_i (s0 + (s1 + 262144))), some (w_i 0)]) (M' := []) rfl rfl rfl rfl rfl ?_
      refine w_aload_n (q := 117) rfl rfl rfl ?_
      refine w_gfr (q := 120) rfl rfl rfl rfl (j := 86) rfl ?_
      refine w_iload (q := 122) rfl rfl rfl ?_
      refine w_iload (q := 124) rfl rfl rfl ?_
      refine w_zeq (t := 139) (q := 127) rfl rfl rfl (by decide) (fun _ => ?_) (fun w => absurd w (by decide))
      refine w_iload (q := 141) rfl rfl rfl ?_
      obtain ⟨h6, k⟩ := k
      refine w_iast (q := 142) (n := 25) rfl rfl rfl rfl rfl h6 ?_
      refine w_aload_n (q := 143) rfl rfl rfl ?_
      refine w_gfr (q := 146) rfl rfl rfl rfl (j := 87) rfl ?_
      refine w_iload_n (q := 147) rfl rfl rfl ?_
      refine w_iload (q := 149) rfl rfl rfl ?_
      refine w_iadd (q := 150) rfl rfl ?_
      refine w_iload (q := 152) rfl rfl rfl ?_
      refine w_zeq (t := 169) (q := 155) rfl rfl rfl (by decide) (fun _ => ?_) (fun w => absurd w (by decide))
      refine w_iload (q := 171) rfl rfl rfl ?_
      obtain ⟨h7, k⟩ := k
      refine w_iast (q := 172) (n := 156) rfl rfl rfl rfl rfl h7 ?_
      refine w_iinc (q := 175) (L' := [some (.ref 85), some (w_i l1), some (w_i l2), some (w_i l3), some (w_i l4), some (w_i l5), some (w_i (l6 + (-1))), some (w_i (s0 + (s1 + 262144))), some (w_i 0)]) (M' := []) rfl rfl rfl rfl rfl rfl ?_
      refine w_goto (t := 35) rfl rfl ?_
      exact k
    · replace k := k.2 c5
      refine w_aload_n (q := 96) rfl rfl rfl ?_
      refine w_gfr (q := 99) rfl rfl rfl rfl (j := 86) rfl ?_
      refine w_iload (q := 101) rfl rfl rfl ?_
      refine w_iconst (q := 102) rfl rfl ?_
      refine w_iadd (q := 103) rfl rfl ?_
      obtain ⟨h8, k⟩ := k
      refine w_iald (q := 104) (n := 25) (v := I 86 (l6 + 1)) rfl rfl rfl rfl rfl rfl h8 ?_
      refine w_iload (q := 106) rfl rfl rfl ?_
      obtain ⟨h9, h10, k⟩ := k
      refine w_cge (t := 113) (q := 109) rfl rfl rfl h9 h10 (fun c11 => ?_) (fun c11 => ?_)
      · replace k := k.1 c11
        refine w_iconst (q := 114) rfl rfl ?_
        refine w_istore (q := 116) (L' := [some (.ref 85), some (w_i l1), some (w_i l2), some (w_i l3), some (w_i l4), some (w_i l5), some (w_i l6), some (w_i (s0 + (s1 + 262144))), some (w_i 0)]) (M' := []) rfl rfl rfl rfl rfl ?_
        refine w_aload_n (q := 117) rfl rfl rfl ?_
        refine w_gfr (q := 120) rfl rfl rfl rfl (j := 86) rfl ?_
        refine w_iload (q := 122) rfl rfl rfl ?_
        refine w_iload (q := 124) rfl rfl rfl ?_
        refine w_zeq (t := 139) (q := 127) rfl rfl rfl (by decide) (fun _ => ?_) (fun w => absurd w (by decide))
        refine w_iload (q := 141) rfl rfl rfl ?_
        obtain ⟨h12, k⟩ := k
        refine w_iast (q := 142) (n := 25) rfl rfl rfl rfl rfl h12 ?_
        refine w_aload_n (q := 143) rfl rfl rfl ?_
        refine w_gfr (q := 146) rfl rfl rfl rfl (j := 87) rfl ?_
        refine w_iload_n (q := 147) rfl rfl rfl ?_
        refine w_iload (q := 149) rfl rfl rfl ?_
        refine w_iadd (q := 150) rfl rfl ?_
        refine w_iload (q := 152) rfl rfl rfl ?_
        refine w_zeq (t := 169) (q := 155) rfl rfl rfl (by decide) (fun _ => ?_) (fun w => absurd w (by decide))
        refine w_iload (q := 171) rfl rfl rfl ?_
        obtain ⟨h13, k⟩ := k
        refine w_iast (q := 172) (n := 156) rfl rfl rfl rfl rfl h13 ?_
        refine w_iinc (q := 175) (L' := [some (.ref 85), some (w_i l1), some (w_i l2), some (w_i l3), some (w_i l4), some (w_i l5), some (w_i (l6 + (-1))), some (w_i (s0 + (s1 + 262144))), some (w_i 0)]) (M' := []) rfl rfl rfl rfl rfl rfl ?_
        refine w_goto (t := 35) rfl rfl ?_
        exact k
      · replace k := k.2 c11
        refine w_iconst (q := 110) rfl rfl ?_
        refine w_goto (t := 114) rfl rfl ?_
        refine w_istore (q := 116) (L' := [some (.ref 85), some (w_i l1), some (w_i l2), some (w_i l3), some (w_i l4), some (w_i l5), some (w_i l6), some (w_i (s0 + (s1 + 262144))), some (w_i 1)]) (M' := []) rfl rfl rfl rfl rfl ?_
        refine w_aload_n (q := 117) rfl rfl rfl ?_
        refine w_gfr (q := 120) rfl rfl rfl rfl (j := 86) rfl ?_
        refine w_iload (q := 122) rfl rfl rfl ?_
        refine w_iload (q := 124) rfl rfl rfl ?_
        refine w_zeq (t := 139) (q := 127) rfl rfl rfl (by decide) (fun w => absurd w (by decide)) (fun _ => ?_)
        refine w_aload_n (q := 128) rfl rfl rfl ?_
        refine w_gfr (q := 131) rfl rfl rfl rfl (j := 86) rfl ?_
        refine w_iload (q := 133) rfl rfl rfl ?_
        refine w_iconst (q := 134) rfl rfl ?_
        refine w_iadd (q := 135) rfl rfl ?_
        refine w_iald (q := 136) (n := 25) (v := I 86 (l6 + 1)) rfl rfl rfl rfl rfl rfl h8 ?_
        refine w_goto (t := 141) rfl rfl ?_
        obtain ⟨h14, k⟩ := k
        refine w_iast (q := 142) (n := 25) rfl rfl rfl rfl rfl h14 ?_
        refine w_aload_n (q := 143) rfl rfl rfl ?_
        refine w_gfr (q := 146) rfl rfl rfl rfl (j := 87) rfl ?_
        refine w_iload_n (q := 147) rfl rfl rfl ?_
        refine w_iload (q := 149) rfl rfl rfl ?_
        refine w_iadd (q := 150) rfl rfl ?_
        refine w_iload (q := 152) rfl rfl rfl ?_
        refine w_zeq (t := 169) (q := 155) rfl rfl rfl (by decide) (fun w => absurd w (by decide)) (fun _ => ?_)
        refine w_aload_n (q := 156) rfl rfl rfl ?_
        refine w_gfr (q := 159) rfl rfl rfl rfl (j := 87) rfl ?_
        refine w_iload_n (q := 160) rfl rfl rfl ?_
        refine w_iload (q := 162) rfl rfl rfl ?_
        refine w_iadd (q := 163) rfl rfl ?_
        refine w_iconst (q := 164) rfl rfl ?_
        refine w_iadd (q := 165) rfl rfl ?_
        obtain ⟨h15, k⟩ := k
        refine w_iald (q := 166) (n := 156) (v := I 87 (l3 + l6 + 1)) rfl rfl rfl rfl rfl rfl h15 ?_
        refine w_goto (t := 171) rfl rfl ?_
        obtain ⟨h16, k⟩ := k
        refine w_iast (q := 172) (n := 156) rfl rfl rfl rfl rfl h16 ?_
        refine w_iinc (q := 175) (L' := [some (.ref 85), some (w_i l1), some (w_i l2), some (w_i l3), some (w_i l4), some (w_i l5), some (w_i (l6 + (-1))), some (w_i (s0 + (s1 + 262144))), some (w_i 1)]) (M' := []) rfl rfl rfl rfl rfl rfl ?_
        refine w_goto (t := 35) rfl rfl ?_
        exact k
  · replace k := k.2 c2
    refine w_iconst (q := 80) rfl rfl ?_
    refine w_goto (t := 85) rfl rfl ?_
    refine w_iadd (q := 86) rfl rfl ?_
    refine w_iadd (q := 87) rfl rfl ?_
    refine w_istore (q := 89) (L' := [some (.ref 85), some (w_i l1), some (w_i l2), some (w_i l3), some (w_i l4), some (w_i l5), some (w_i l6), some (w_i (s0 + (s1 + 0))), u8]) (M' := []) rfl rfl rfl rfl rfl ?_
    refine w_iload (q := 91) rfl rfl rfl ?_
    refine w_iload_n (q := 92) rfl rfl rfl ?_
    obtain ⟨h17, h18, k⟩ := k
    refine w_cge (t := 113) (q := 95) rfl rfl rfl h17 h18 (fun c19 => ?_) (fun c19 => ?_)
    · replace k := k.1 c19
      refine w_iconst (q := 114) rfl rfl ?_
      refine w_istore (q := 116) (L' := [some (.ref 85), some (w_i l1), some (w_i l2), some (w_i l3), some (w_i l4), some (w_i l5), some (w_i l6), some (w_i (s0 + (s1 + 0))), some (w_i 0)]) (M' := []) rfl rfl rfl rfl rfl ?_
      refine w_aload_n (q := 117) rfl rfl rfl ?_
      refine w_gfr (q := 120) rfl rfl rfl rfl (j := 86) rfl ?_
      refine w_iload (q := 122) rfl rfl rfl ?_
      refine w_iload (q := 124) rfl rfl rfl ?_
      refine w_zeq (t := 139) (q := 127) rfl rfl rfl (by decide) (fun _ => ?_) (fun w => absurd w (by decide))
      refine w_iload (q := 141) rfl rfl rfl ?_
      obtain ⟨h20, k⟩ := k
      refine w_iast (q := 142) (n := 25) rfl rfl rfl rfl rfl h20 ?_
      refine w_aload_n (q := 143) rfl rfl rfl ?_
      refine w_gfr (q := 146) rfl rfl rfl rfl (j := 87) rfl ?_
      refine w_iload_n (q := 147) rfl rfl rfl ?_
      refine w_iload (q := 149) rfl rfl rfl ?_
      refine w_iadd (q := 150) rfl rfl ?_
      refine w_iload (q := 152) rfl rfl rfl ?_
      refine w_zeq (t := 169) (q := 155) rfl rfl rfl (by decide) (fun _ => ?_) (fun w => absurd w (by decide))
      refine w_iload (q := 171) rfl rfl rfl ?_
      obtain ⟨h21, k⟩ := k
      refine w_iast (q := 172) (n := 156) rfl rfl rfl rfl rfl h21 ?_
      refine w_iinc (q := 175) (L' := [some (.ref 85), some (w_i l1), some (w_i l2), some (w_i l3), some (w_i l4), some (w_i l5), some (w_i (l6 + (-1))), some (w_i (s0 + (s1 + 0))), some (w_i 0)]) (M' := []) rfl rfl rfl rfl rfl rfl ?_
      refine w_goto (t := 35) rfl rfl ?_
      exact k
    · replace k := k.2 c19
      refine w_aload_n (q := 96) rfl rfl rfl ?_
      refine w_gfr (q := 99) rfl rfl rfl rfl (j := 86) rfl ?_
      refine w_iload (q := 101) rfl rfl rfl ?_
      refine w_iconst (q := 102) rfl rfl ?_
      refine w_iadd (q := 103) rfl rfl ?_
      obtain ⟨h22, k⟩ := k
      refine w_iald (q := 104) (n := 25) (v := I 86 (l6 + 1)) rfl rfl rfl rfl rfl rfl h22 ?_
      refine w_iload (q := 106) rfl rfl rfl ?_
      obtain ⟨h23, h24, k⟩ := k
      refine w_cge (t := 113) (q := 109) rfl rfl rfl h23 h24 (fun c25 => ?_) (fun c25 => ?_)
      · replace k := k.1 c25
        refine w_iconst (q := 114) rfl rfl ?_
        refine w_istore (q := 116) (L' := [some (.ref 85), some (w_i l1), some (w_i l2), some (w_i l3), some (w_i l4), some (w_i l5), some (w_i l6), some (w_i (s0 + (s1 + 0))), some (w_i 0)]) (M' := []) rfl rfl rfl rfl rfl ?_
        refine w_aload_n (q := 117) rfl rfl rfl ?_
        refine w_gfr (q := 120) rfl rfl rfl rfl (j := 86) rfl ?_
        refine w_iload (q := 122) rfl rfl rfl ?_
        refine w_iload (q := 124) rfl rfl rfl ?_
        refine w_zeq (t := 139) (q := 127) rfl rfl rfl (by decide) (fun _ => ?_) (fun w => absurd w (by decide))
        refine w_iload (q := 141) rfl rfl rfl ?_
        obtain ⟨h26, k⟩ := k
        refine w_iast (q := 142) (n := 25) rfl rfl rfl rfl rfl h26 ?_
        refine w_aload_n (q := 143) rfl rfl rfl ?_
        refine w_gfr (q := 146) rfl rfl rfl rfl (j := 87) rfl ?_
        refine w_iload_n (q := 147) rfl rfl rfl ?_
        refine w_iload (q := 149) rfl rfl rfl ?_
        refine w_iadd (q := 150) rfl rfl ?_
        refine w_iload (q := 152) rfl rfl rfl ?_
        refine w_zeq (t := 169) (q := 155) rfl rfl rfl (by decide) (fun _ => ?_) (fun w => absurd w (by decide))
        refine w_iload (q := 171) rfl rfl rfl ?_
        obtain ⟨h27, k⟩ := k
        refine w_iast (q := 172) (n := 156) rfl rfl rfl rfl rfl h27 ?_
        refine w_iinc (q := 175) (L' := [some (.ref 85), some (w_i l1), some (w_i l2), some (w_i l3), some (w_i l4), some (w_i l5), some (w_i (l6 + (-1))), some (w_i (s0 + (s1 + 0))), some (w_i 0)]) (M' := []) rfl rfl rfl rfl rfl rfl ?_
        refine w_goto (t := 35) rfl rfl ?_
        exact k
      · replace k := k.2 c25
        refine w_iconst (q := 110) rfl rfl ?_
        refine w_goto (t := 114) rfl rfl ?_
        refine w_istore (q := 116) (L' := [some (.ref 85), some (w_i l1), some (w_i l2), some (w_i l3), some (w_i l4), some (w_i l5), some (w_i l6), some (w_i (s0 + (s1 + 0))), some (w_i 1)]) (M' := []) rfl rfl rfl rfl rfl ?_
        refine w_aload_n (q := 117) rfl rfl rfl ?_
        refine w_gfr (q := 120) rfl rfl rfl rfl (j := 86) rfl ?_
        refine w_iload (q := 122) rfl rfl rfl ?_
        refine w_iload (q := 124) rfl rfl rfl ?_
        refine w_zeq (t := 139) (q := 127) rfl rfl rfl (by decide) (fun w => absurd w (by decide)) (fun _ => ?_)
        refine w_aload_n (q := 128) rfl rfl rfl ?_
        refine w_gfr (q := 131) rfl rfl rfl rfl (j := 86) rfl ?_
        refine w_iload (q := 133) rfl rfl rfl ?_
        refine w_iconst (q := 134) rfl rfl ?_
        refine w_iadd (q := 135) rfl rfl ?_
        refine w_iald (q := 136) (n := 25) (v := I 86 (l6 + 1)) rfl rfl rfl rfl rfl rfl h22 ?_
        refine w_goto (t := 141) rfl rfl ?_
        obtain ⟨h28, k⟩ := k
        refine w_iast (q := 142) (n := 25) rfl rfl rfl rfl rfl h28 ?_
        refine w_aload_n (q := 143) rfl rfl rfl ?_
        refine w_gfr (q := 146) rfl rfl rfl rfl (j := 87) rfl ?_
        refine w_iload_n (q := 147) rfl rfl rfl ?_
        refine w_iload (q := 149) rfl rfl rfl ?_
        refine w_iadd (q := 150) rfl rfl ?_
        refine w_iload (q := 152) rfl rfl rfl ?_
        refine w_zeq (t := 169) (q := 155) rfl rfl rfl (by decide) (fun w => absurd w (by decide)) (fun _ => ?_)
        refine w_aload_n (q := 156) rfl rfl rfl ?_
        refine w_gfr (q := 159) rfl rfl rfl rfl (j := 87) rfl ?_
        refine w_iload_n (q := 160) rfl rfl rfl ?_
        refine w_iload (q := 162) rfl rfl rfl ?_
        refine w_iadd (q := 163) rfl rfl ?_
        refine w_iconst (q := 164) rfl rfl ?_
        refine w_iadd (q := 165) rfl rfl ?_
        obtain ⟨h29, k⟩ := k
        refine w_iald (q := 166) (n := 156) (v := I 87 (l3 + l6 + 1)) rfl rfl rfl rfl rfl rfl h29 ?_
        refine w_goto (t := 171) rfl rfl ?_
        obtain ⟨h30, k⟩ := k
        refine w_iast (q := 172) (n := 156) rfl rfl rfl rfl rfl h30 ?_
        refine w_iinc (q := 175) (L' := [some (.ref 85), some (w_i l1), some (w_i l2), some (w_i l3), some (w_i l4), some (w_i l5), some (w_i (l6 + (-1))), some (w_i (s0 + (s1 + 0))), some (w_i 1)]) (M' := []) rfl rfl rfl rfl rfl rfl ?_
        refine w_goto (t := 35) rfl rfl ?_
        exact k
end
