section
theorem e192 {xs : Nat → Int32} {xl : Nat} {I J : w_I} {b : Bool} {Q : Option Value → w_I → w_I → Bool → Prop} {a1 a2 : Int} (t : w_T xs xl 192 0 [some (.ref 104), some (w_i a1), some (w_i a2), none] [] [] I J b Q) : w_C xs xl 192 [.ref 104, w_i a1, w_i a2] I J b Q := w_en rfl t
theorem b192_0 {xs : Nat → Int32} {xl : Nat} {I J : w_I} {b : Bool} {Q : Option Value → w_I → w_I → Bool → Prop} {a1 a2 : Int} (k : w_T xs xl 192 2 [some (.ref 104), some (w_i a1), some (w_i a2), some (w_i 0)] [] [] I J b Q) : w_T xs xl 192 0 [some (.ref 104), some (w_i a1), some (w_i a2), none] [] [] I J b Q := by
  refine w_iconst (q := 1) rfl rfl ?_
  refine w_istore_n (q := 2) (L' := [some (.ref 104), some (w_i a1), some (w_i a2), some (w_i 0)]) (M' := []) rfl rfl rfl rfl rfl ?_
  exact k
theorem b192_2 {xs : Nat → Int32} {xl : Nat} {I J : w_I} {b : Bool} {Q : Option Value → w_I → w_I → Bool → Prop} {l1 l2 l3 : Int} (k : ((-2147483648 ≤ l3 ∧ l3 < 2147483648) ∧ ((700 ≤ l3 → ((0 ≤ l1 ∧ l1 < 4) ∧ ((0 ≤ l2 ∧ l2 < 4) ∧ w_T xs xl 192 65 [some (.ref 104), some (w_i l1), some (w_i l2), some (w_i 0)] [] [] (w_U (w_U I 111 l2 (I 111 l1)) 114 l2 (I 114 l1)) J b Q))) ∧ (¬ 700 ≤ l3 → ((0 ≤ 700 * l1 + l3 ∧ 700 * l1 + l3 < 2800) ∧ ((0 ≤ 700 * l2 + l3 ∧ 700 * l2 + l3 < 2800) ∧ w_T xs xl 192 2 [some (.ref 104), some (w_i l1), some (w_i l2), some (w_i (l3 + 1))] [] [] (w_U I 110 (700 * l2 + l3) (I 110 (700 * l1 + l3))) J b Q)))))) : w_T xs xl 192 2 [some (.ref 104), some (w_i l1), some (w_i l2), some (w_i l3)] [] [] I J b Q := by
  refine w_iload_n (q := 3) rfl rfl rfl ?_
  refine w_sipush (q := 6) rfl rfl rfl ?_
  obtain ⟨h1, k⟩ := k
  refine w_cge (t := 39) (q := 9) rfl rfl rfl h1 (by decide) (fun c2 => ?_) (fun c2 => ?_)
  · replace k := k.1 c2
    refine w_aload_n (q := 40) rfl rfl rfl ?_
    refine w_gfr (q := 43) rfl rfl rfl rfl (j := 111) rfl ?_
    refine w_iload_n (q := 44) rfl rfl rfl ?_
    refine w_aload_n (q := 45) rfl rfl rfl ?_
    refine w_gfr (q := 48) rfl rfl rfl rfl (j := 111) rfl ?_
    refine w_iload_n (q := 49) rfl rfl rfl ?_
    obtain ⟨h3, k⟩ := k
    refine w_iald (q := 50) (n := 4) (v := I 111 l1) rfl rfl rfl rfl rfl rfl h3 ?_
    obtain ⟨h4, k⟩ := k
    refine w_iast (q := 51) (n := 4) rfl rfl rfl rfl rfl h4 ?_
    refine w_aload_n (q := 52) rfl rfl rfl ?_
    refine w_gfr (q := 55) rfl rfl rfl rfl (j := 114) rfl ?_
    refine w_iload_n (q := 56) rfl rfl rfl ?_
    refine w_aload_n (q := 57) rfl rfl rfl ?_
    refine w_gfr (q := 60) rfl rfl rfl rfl (j := 114) rfl ?_
    refine w_iload_n (q := 61) rfl rfl rfl ?_
    refine w_iald (q := 62) (n := 4) (v := I 114 l1) rfl rfl rfl rfl rfl rfl h3 ?_
    refine w_iast (q := 63) (n := 4) rfl rfl rfl rfl rfl h4 ?_
    refine w_iconst (q := 64) rfl rfl ?_
    refine w_istore_n (q := 65) (L' := [some (.ref 104), some (w_i l1), some (w_i l2), some (w_i 0)]) (M' := []) rfl rfl rfl rfl rfl ?_
    exact k
  · replace k := k.2 c2
    refine w_aload_n (q := 10) rfl rfl rfl ?_
    refine w_gfr (q := 13) rfl rfl rfl rfl (j := 110) rfl ?_
    refine w_sipush (q := 16) rfl rfl rfl ?_
    refine w_iload_n (q := 17) rfl rfl rfl ?_
    refine w_imul (q := 18) rfl rfl ?_
    refine w_iload_n (q := 19) rfl rfl rfl ?_
    refine w_iadd (q := 20) rfl rfl ?_
    refine w_aload_n (q := 21) rfl rfl rfl ?_
    refine w_gfr (q := 24) rfl rfl rfl rfl (j := 110) rfl ?_
    refine w_sipush (q := 27) rfl rfl rfl ?_
    refine w_iload_n (q := 28) rfl rfl rfl ?_
    refine w_imul (q := 29) rfl rfl ?_
    refine w_iload_n (q := 30) rfl rfl rfl ?_
    refine w_iadd (q := 31) rfl rfl ?_
    obtain ⟨h5, k⟩ := k
    refine w_iald (q := 32) (n := 2800) (v := I 110 (700 * l1 + l3)) rfl rfl rfl rfl rfl rfl h5 ?_
    obtain ⟨h6, k⟩ := k
    refine w_iast (q := 33) (n := 2800) rfl rfl rfl rfl rfl h6 ?_
    refine w_iinc (q := 36) (L' := [some (.ref 104), some (w_i l1), some (w_i l2), some (w_i (l3 + 1))]) (M' := []) rfl rfl rfl rfl rfl rfl ?_
    refine w_goto (t := 2) rfl rfl ?_
    exact k
theorem b192_65 {xs : Nat → Int32} {xl : Nat} {I J : w_I} {b : Bool} {Q : Option Value → w_I → w_I → Bool → Prop} {l1 l2 l3 : Int} (k : ((-2147483648 ≤ l3 ∧ l3 < 2147483648) ∧ ((500 ≤ l3 → w_T xs xl 192 128 [some (.ref 104), some (w_i l1), some (w_i l2), some (w_i 0)] [] [] I J b Q) ∧ (¬ 500 ≤ l3 → ((0 ≤ 500 * l1 + l3 ∧ 500 * l1 + l3 < 2000) ∧ ((0 ≤ 500 * l2 + l3 ∧ 500 * l2 + l3 < 2000) ∧ w_T xs xl 192 65 [some (.ref 104), some (w_i l1), some (w_i l2), some (w_i (l3 + 1))] [] [] (w_U (w_U I 112 (500 * l2 + l3) (I 112 (500 * l1 + l3))) 113 (500 * l2 + l3) (I 113 (500 * l1 + l3))) J b Q)))))) : w_T xs xl 192 65 [some (.ref 104), some (w_i l1), some (w_i l2), some (w_i l3)] [] [] I J b Q := by
  refine w_iload_n (q := 66) rfl rfl rfl ?_
  refine w_sipush (q := 69) rfl rfl rfl ?_
  obtain ⟨h1, k⟩ := k
  refine w_cge (t := 126) (q := 72) rfl rfl rfl h1 (by decide) (fun c2 => ?_) (fun c2 => ?_)
  · replace k := k.1 c2
    refine w_iconst (q := 127) rfl rfl ?_
    refine w_istore_n (q := 128) (L' := [some (.ref 104), some (w_i l1), some (w_i l2), some (w_i 0)]) (M' := []) rfl rfl rfl rfl rfl ?_
    exact k
  · replace k := k.2 c2
    refine w_aload_n (q := 73) rfl rfl rfl ?_
    refine w_gfr (q := 76) rfl rfl rfl rfl (j := 112) rfl ?_
    refine w_sipush (q := 79) rfl rfl rfl ?_
    refine w_iload_n (q := 80) rfl rfl rfl ?_
    refine w_imul (q := 81) rfl rfl ?_
    refine w_iload_n (q := 82) rfl rfl rfl ?_
    refine w_iadd (q := 83) rfl rfl ?_
    refine w_aload_n (q := 84) rfl rfl rfl ?_
    refine w_gfr (q := 87) rfl rfl rfl rfl (j := 112) rfl ?_
    refine w_sipush (q := 90) rfl rfl rfl ?_
    refine w_iload_n (q := 91) rfl rfl rfl ?_
    refine w_imul (q := 92) rfl rfl ?_
    refine w_iload_n (q := 93) rfl rfl rfl ?_
    refine w_iadd (q := 94) rfl rfl ?_
    obtain ⟨h3, k⟩ := k
    refine w_iald (q := 95) (n := 2000) (v := I 112 (500 * l1 + l3)) rfl rfl rfl rfl rfl rfl h3 ?_
    obtain ⟨h4, k⟩ := k
    refine w_iast (q := 96) (n := 2000) rfl rfl rfl rfl rfl h4 ?_
    refine w_aload_n (q := 97) rfl rfl rfl ?_
    refine w_gfr (q := 100) rfl rfl rfl rfl (j := 113) rfl ?_
    refine w_sipush (q := 103) rfl rfl rfl ?_
    refine w_iload_n (q := 104) rfl rfl rfl ?_
    refine w_imul (q := 105) rfl rfl ?_
    refine w_iload_n (q := 106) rfl rfl rfl ?_
    refine w_iadd (q := 107) rfl rfl ?_
    refine w_aload_n (q := 108) rfl rfl rfl ?_
    refine w_gfr (q := 111) rfl rfl rfl rfl (j := 113) rfl ?_
    refine w_sipush (q := 114) rfl rfl rfl ?_
    refine w_iload_n (q := 115) rfl rfl rfl ?_
    refine w_imul (q := 116) rfl rfl ?_
    refine w_iload_n (q := 117) rfl rfl rfl ?_
    refine w_iadd (q := 118) rfl rfl ?_
    refine w_iald (q := 119) (n := 2000) (v := I 113 (500 * l1 + l3)) rfl rfl rfl rfl rfl rfl h3 ?_
    refine w_iast (q := 120) (n := 2000) rfl rfl rfl rfl rfl h4 ?_
    refine w_iinc (q := 123) (L' := [some (.ref 104), some (w_i l1), some (w_i l2), some (w_i (l3 + 1))]) (M' := []) rfl rfl rfl rfl rfl rfl ?_
    refine w_goto (t := 65) rfl rfl ?_
    exact k
theorem b192_128 {xs : Nat → Int32} {xl : Nat} {I J : w_I} {b : Bool} {Q : Option Value → w_I → w_I → Bool → Prop} {l1 l2 l3 : Int} (k : ((-2147483648 ≤ l3 ∧ l3 < 2147483648) ∧ ((200 ≤ l3 → Q none I J b) ∧ (¬ 200 ≤ l3 → ((0 ≤ 200 * l1 + l3 ∧ 200 * l1 + l3 < 800) ∧ ((I 115 (200 * l1 + l3) = 0 ∨ I 115 (200 * l1 + l3) = 1) ∧ (0 ≤ 200 * l2 + l3 ∧ 200 * l2 + l3 < 800) ∧ w_T xs xl 192 128 [some (.ref 104), some (w_i l1), some (w_i l2), some (w_i (l3 + 1))] [] [] (w_U (w_U (w_U (w_U (w_U (w_U I 115 (200 * l2 + l3) (I 115 (200 * l1 + l3))) 116 (200 * l2 + l3) (I 116 (200 * l1 + l3))) 117 (200 * l2 + l3) (I 117 (200 * l1 + l3))) 118 (200 * l2 + l3) (I 118 (200 * l1 + l3))) 119 (200 * l2 + l3) (I 119 (200 * l1 + l3))) 120 (200 * l2 + l3) (I 120 (200 * l1 + l3))) J b Q)))))) : w_T xs xl 192 128 [some (.ref 104), some (w_i l1), some (w_i l2), some (w_i l3)] [] [] I J b Q := by
  refine w_iload_n (q := 129) rfl rfl rfl ?_
  refine w_sipush (q := 132) rfl rfl rfl ?_
  obtain ⟨h1, k⟩ := k
  refine w_cge (t := 285) (q := 135) rfl rfl rfl h1 (by decide) (fun c2 => ?_) (fun c2 => ?_)
  · replace k := k.1 c2
    exact w_vret rfl k
  · replace k := k.2 c2
    refine w_aload_n (q := 136) rfl rfl rfl ?_
    refine w_gfr (q := 139) rfl rfl rfl rfl (j := 115) rfl ?_
    refine w_sipush (q := 142) rfl rfl rfl ?_
    refine w_iload_n (q := 143) rfl rfl rfl ?_
    refine w_imul (q := 144) rfl rfl ?_
    refine w_iload_n (q := 145) rfl rfl rfl ?_
    refine w_iadd (q := 146) rfl rfl ?_
    refine w_aload_n (q := 147) rfl rfl rfl ?_
    refine w_gfr (q := 150) rfl rfl rfl rfl (j := 115) rfl ?_
    refine w_sipush (q := 153) rfl rfl rfl ?_
    refine w_iload_n (q := 154) rfl rfl rfl ?_
    refine w_imul (q := 155) rfl rfl ?_
    refine w_iload_n (q := 156) rfl rfl rfl ?_
    refine w_iadd (q := 157) rfl rfl ?_
    obtain ⟨h3, k⟩ := k
    refine w_bald2 (q := 158) (n := 800) (v := I 115 (200 * l1 + l3)) rfl rfl rfl rfl rfl rfl h3 ?_
    obtain ⟨h4, h5, k⟩ := k
    refine w_bast2 (q := 159) (n := 800) rfl rfl rfl rfl rfl h4 h5 ?_
    refine w_aload_n (q := 160) rfl rfl rfl ?_
    refine w_gfr (q := 163) rfl rfl rfl rfl (j := 116) rfl ?_
    refine w_sipush (q := 166) rfl rfl rfl ?_
    refine w_iload_n (q := 167) rfl rfl rfl ?_
    refine w_imul (q := 168) rfl rfl ?_
    refine w_iload_n (q := 169) rfl rfl rfl ?_
    refine w_iadd (q := 170) rfl rfl ?_
    refine w_aload_n (q := 171) rfl rfl rfl ?_
    refine w_gfr (q := 174) rfl rfl rfl rfl (j := 116) rfl ?_
    refine w_sipush (q := 177) rfl rfl rfl ?_
    refine w_iload_n (q := 178) rfl rfl rfl ?_
    refine w_imul (q := 179) rfl rfl ?_
    refine w_iload_n (q := 180) rfl rfl rfl ?_
    refine w_iadd (q := 181) rfl rfl ?_
    refine w_iald (q := 182) (n := 800) (v := I 116 (200 * l1 + l3)) rfl rfl rfl rfl rfl rfl h3 ?_
    refine w_iast (q := 183) (n := 800) rfl rfl rfl rfl rfl h5 ?_
    refine w_aload_n (q := 184) rfl rfl rfl ?_
    refine w_gfr (q := 187) rfl rfl rfl rfl (j := 117) rfl ?_
    refine w_sipush (q := 190) rfl rfl rfl ?_
    refine w_iload_n (q := 191) rfl rfl rfl ?_
    refine w_imul (q := 192) rfl rfl ?_
    refine w_iload_n (q := 193) rfl rfl rfl ?_
    refine w_iadd (q := 194) rfl rfl ?_
    refine w_aload_n (q := 195) rfl rfl rfl ?_
    refine w_gfr (q := 198) rfl rfl rfl rfl (j := 117) rfl ?_
    refine w_sipush (q := 201) rfl rfl rfl ?_
    refine w_iload_n (q := 202) rfl rfl rfl ?_
    refine w_imul (q := 203) rfl rfl ?_
    refine w_iload_n (q := 204) rfl rfl rfl ?_
    refine w_iadd (q := 205) rfl rfl ?_
    refine w_iald (q := 206) (n := 800) (v := I 117 (200 * l1 + l3)) rfl rfl rfl rfl rfl rfl h3 ?_
    refine w_iast (q := 207) (n := 800) rfl rfl rfl rfl rfl h5 ?_
    refine w_aload_n (q := 208) rfl rfl rfl ?_
    refine w_gfr (q := 211) rfl rfl rfl rfl (j := 118) rfl ?_
    refine w_sipush (q := 214) rfl rfl rfl ?_
    refine w_iload_n (q := 215) rfl rfl rfl ?_
    refine w_imul (q := 216) rfl rfl ?_
    refine w_iload_n (q := 217) rfl rfl rfl ?_
    refine w_iadd (q := 218) rfl rfl ?_
    refine w_aload_n (q := 219) rfl rfl rfl ?_
    refine w_gfr (q := 222) rfl rfl rfl rfl (j := 118) rfl ?_
    refine w_sipush (q := 225) rfl rfl rfl ?_
    refine w_iload_n (q := 226) rfl rfl rfl ?_
    refine w_imul (q := 227) rfl rfl ?_
    refine w_iload_n (q := 228) rfl rfl rfl ?_
    refine w_iadd (q := 229) rfl rfl ?_
    refine w_iald (q := 230) (n := 800) (v := I 118 (200 * l1 + l3)) rfl rfl rfl rfl rfl rfl h3 ?_
    refine w_iast (q := 231) (n := 800) rfl rfl rfl rfl rfl h5 ?_
    refine w_aload_n (q := 232) rfl rfl rfl ?_
    refine w_gfr (q := 235) rfl rfl rfl rfl (j := 119) rfl ?_
    refine w_sipush (q := 238) rfl rfl rfl ?_
    refine w_iload_n (q := 239) rfl rfl rfl ?_
    refine w_imul (q := 240) rfl rfl ?_
    refine w_iload_n (q := 241) rfl rfl rfl ?_
    refine w_iadd (q := 242) rfl rfl ?_
    refine w_aload_n (q := 243) rfl rfl rfl ?_
    refine w_gfr (q := 246) rfl rfl rfl rfl (j := 119) rfl ?_
    refine w_sipush (q := 249) rfl rfl rfl ?_
    refine w_iload_n (q := 250) rfl rfl rfl ?_
    refine w_imul (q := 251) rfl rfl ?_
    refine w_iload_n (q := 252) rfl rfl rfl ?_
    refine w_iadd (q := 253) rfl rfl ?_
    refine w_iald (q := 254) (n := 800) (v := I 119 (200 * l1 + l3)) rfl rfl rfl rfl rfl rfl h3 ?_
    refine w_iast (q := 255) (n := 800) rfl rfl rfl rfl rfl h5 ?_
    refine w_aload_n (q := 256) rfl rfl rfl ?_
    refine w_gfr (q := 259) rfl rfl rfl rfl (j := 120) rfl ?_
    refine w_sipush (q := 262) rfl rfl rfl ?_
    refine w_iload_n (q := 263) rfl rfl rfl ?_
    refine w_imul (q := 264) rfl rfl ?_
    refine w_iload_n (q := 265) rfl rfl rfl ?_
    refine w_iadd (q := 266) rfl rfl ?_
    refine w_aload_n (q := 267) rfl rfl rfl ?_
    refine w_gfr (q := 270) rfl rfl rfl rfl (j := 120) rfl ?_
    refine w_sipush (q := 273) rfl rfl rfl ?_
    refine w_iload_n (q := 274) rfl rfl rfl ?_
    refine w_imul (q := 275) rfl rfl ?_
    refine w_iload_n (q := 276) rfl rfl rfl ?_
    refine w_iadd (q := 277) rfl rfl ?_
    refine w_iald (q := 278) (n := 800) (v := I 120 (200 * l1 + l3)) rfl rfl rfl rfl rfl rfl h3 ?_
    refine w_iast (q := 279) (n := 800) rfl rfl rfl rfl rfl h5 ?_
    refine w_iinc (q := 282) (L' := [some (.ref 104), some (w_i l1), some (w_i l2), some (w_i (l3 + 1))]) (M' := []) rfl rfl rfl rfl rfl rfl ?_
    refine w_goto (t := 128) rfl rfl ?_
    exact k
theorem e193 {xs : Nat → Int32} {xl : Nat} {I J : w_I} {b : Bool} {Q : Option Value → w_I → w_I → Bool → Prop} (t : w_T xs xl 193 0 [some (.ref 104), none, none, none] [] [] I J b Q) : w_C xs xl 193 [.ref 104] I J b Q := w_en rfl t
theorem b193_0 {xs : Nat → Int32} {xl : Nat} {I J : w_I} {b : Bool} {Q : Option Value → w_I → w_I → Bool → Prop} (k : w_C xs xl 189 [.ref 104, w_i 0] I J b (fun v Ic Jc bc => w_T xs xl 193 5 [some (.ref 104), none, none, none] [] (w_pv v []) Ic Jc bc Q)) : w_T xs xl 193 0 [some (.ref 104), none, none, none] [] [] I J b Q := by
  refine w_aload_n (q := 1) rfl rfl rfl ?_
  refine w_iconst (q := 2) rfl rfl ?_
  refine w_callv (q := 5) rfl rfl rfl rfl rfl rfl ?_
  exact k
theorem b193_5 {xs : Nat → Int32} {xl : Nat} {I J : w_I} {b : Bool} {Q : Option Value → w_I → w_I → Bool → Prop} {u1 u2 u3 : Option Value} {s0 : Int} (k : ((-2147483648 ≤ s0 ∧ s0 < 2147483648) ∧ ((¬ s0 = 24 → w_C xs xl 177 [.ref 104] I J b (fun v Ic Jc bc => w_T xs xl 193 22 [some (.ref 104), some (w_i s0), u2, u3] [] (w_pv v []) Ic Jc bc Q)) ∧ (s0 = 24 → w_C xs xl 175 [.ref 104, w_i 2] I J b (fun v Ic Jc bc => w_T xs xl 193 17 [some (.ref 104), some (w_i s0), u2, u3] [] (w_pv v []) Ic Jc bc Q))))) : w_T xs xl 193 5 [some (.ref 104), u1, u2, u3] [] [w_i s0] I J b Q := by
  refine w_istore_n (q := 6) (L' := [some (.ref 104), some (w_i s0), u2, u3]) (M' := []) rfl rfl rfl rfl rfl ?_
  refine w_iload_n (q := 7) rfl rfl rfl ?_
  refine w_bipush (q := 9) rfl rfl rfl ?_
  obtain ⟨h1, k⟩ := k
  refine w_cne (t := 18) (q := 12) rfl rfl rfl h1 (by decide) (fun c2 => ?_) (fun c2 => ?_)
  · replace k := k.1 c2
    refine w_aload_n (q := 19) rfl rfl rfl ?_
    refine w_callv (q := 22) rfl rfl rfl rfl rfl rfl ?_
    exact k
  · replace k := k.2 c2
    refine w_aload_n (q := 13) rfl rfl rfl ?_
    refine w_iconst (q := 14) rfl rfl ?_
    refine w_callv (q := 17) rfl rfl rfl rfl rfl rfl ?_
    exact k
theorem b193_22 {xs : Nat → Int32} {xl : Nat} {I J : w_I} {b : Bool} {Q : Option Value → w_I → w_I → Bool → Prop} {l1 s0 : Int} {u2 u3 : Option Value} (k : ((-2147483648 ≤ s0 ∧ s0 < 2147483648) ∧ ((¬ s0 = 0 → w_C xs xl 180 [.ref 104, w_i 0] I J b (fun v Ic Jc bc => w_T xs xl 193 37 [some (.ref 104), some (w_i l1), some (w_i (I 104 7)), u3] [] (w_pv v []) Ic Jc bc Q)) ∧ (s0 = 0 → Q (some (w_i 0)) I J b)))) : w_T xs xl 193 22 [some (.ref 104), some (w_i l1), u2, u3] [] [w_i s0] I J b Q := by
  obtain ⟨h1, k⟩ := k
  refine w_zne (t := 27) (q := 25) rfl rfl rfl h1 (fun c2 => ?_) (fun c2 => ?_)
  · replace k := k.1 c2
    refine w_aload_n (q := 28) rfl rfl rfl ?_
    refine w_gfi (q := 31) (k' := 7) (v := I 104 7) rfl rfl rfl rfl rfl rfl rfl ?_
    refine w_istore_n (q := 32) (L' := [some (.ref 104), some (w_i l1), some (w_i (I 104 7)), u3]) (M' := []) rfl rfl rfl rfl rfl ?_
    refine w_aload_n (q := 33) rfl rfl rfl ?_
    refine w_iconst (q := 34) rfl rfl ?_
    refine w_callv (q := 37) rfl rfl rfl rfl rfl rfl ?_
    exact k
  · replace k := k.2 c2
    refine w_iconst (q := 26) rfl rfl ?_
    refine w_iret rfl rfl k
theorem b193_17 {xs : Nat → Int32} {xl : Nat} {I J : w_I} {b : Bool} {Q : Option Value → w_I → w_I → Bool → Prop} {u1 u2 u3 : Option Value} {s0 : Int} (k : ((s0 = 0 ∨ s0 = 1) ∧ Q (some (w_i s0)) I J b)) : w_T xs xl 193 17 [some (.ref 104), u1, u2, u3] [] [w_i s0] I J b Q := by
  obtain ⟨h1, k⟩ := k
  refine w_iret rfl (w_nz1 h1) k
theorem b193_37 {xs : Nat → Int32} {xl : Nat} {I J : w_I} {b : Bool} {Q : Option Value → w_I → w_I → Bool → Prop} {l1 l2 s0 : Int} {u3 : Option Value} (k : ((-2147483648 ≤ s0 ∧ s0 < 2147483648) ∧ ((¬ s0 = 0 → w_T xs xl 193 44 [some (.ref 104), some (w_i l1), some (w_i l2), some (w_i 0)] [] [] I J b Q) ∧ (s0 = 0 → Q (some (w_i 0)) I J b)))) : w_T xs xl 193 37 [some (.ref 104), some (w_i l1), some (w_i l2), u3] [] [w_i s0] I J b Q := by
  obtain ⟨h1, k⟩ := k
  refine w_zne (t := 42) (q := 40) rfl rfl rfl h1 (fun c2 => ?_) (fun c2 => ?_)
  · replace k := k.1 c2
    refine w_iconst (q := 43) rfl rfl ?_
    refine w_istore_n (q := 44) (L' := [some (.ref 104), some (w_i l1), some (w_i l2), some (w_i 0)]) (M' := []) rfl rfl rfl rfl rfl ?_
    exact k
  · replace k := k.2 c2
    refine w_iconst (q := 41) rfl rfl ?_
    refine w_iret rfl rfl k
theorem b193_44 {xs : Nat → Int32} {xl : Nat} {I J : w_I} {b : Bool} {Q : Option Value → w_I → w_I → Bool → Prop} {l1 l2 l3 : Int} (k : ((-2147483648 ≤ l3 ∧ l3 < 2147483648) ∧ (-2147483648 ≤ l1 ∧ l1 < 2147483648) ∧ ((l1 ≤ l3 → ((0 ≤ l2 ∧ l2 < 2001) ∧ ((0 ≤ l1 ∧ l1 < 24) ∧ w_C xs xl 179 [.ref 104, w_i 1] I (w_U J 122 l1 (J 109 l2)) b (fun v Ic Jc bc => w_T xs xl 193 99 [some (.ref 104), some (w_i l1), some (w_i l2), some (w_i l3)] [] (w_pv v [w_i (20 + l1), .ref 104]) Ic Jc bc Q)))) ∧ (¬ l1 ≤ l3 → ((0 ≤ l3 ∧ l3 < 24) ∧ ((0 ≤ l2 ∧ l2 < 2001) ∧ ((-9223372036854775808 ≤ J 122 l3 ∧ J 122 l3 < 9223372036854775808) ∧ (-9223372036854775808 ≤ J 109 l2 ∧ J 109 l2 < 9223372036854775808) ∧ ((¬ J 122 l3 = J 109 l2 → w_T xs xl 193 44 [some (.ref 104), some (w_i l1), some (w_i l2), some (w_i (l3 + 1))] [] [] I J b Q) ∧ (J 122 l3 = J 109 l2 → w_C xs xl 176 [.ref 104, w_i 3, w_i l2] I J b (fun v Ic Jc bc => w_T xs xl 193 71 [some (.ref 104), some (w_i l1), some (w_i l2), some (w_i l3)] [] (w_pv v []) Ic Jc bc Q)))))))))) : w_T xs xl 193 44 [some (.ref 104), some (w_i l1), some (w_i l2), some (w_i l3)] [] [] I J b Q := by
  refine w_iload_n (q := 45) rfl rfl rfl ?_
  refine w_iload_n (q := 46) rfl rfl rfl ?_
  obtain ⟨h1, h2, k⟩ := k
  refine w_cge (t := 77) (q := 49) rfl rfl rfl h1 h2 (fun c3 => ?_) (fun c3 => ?_)
  · replace k := k.1 c3
    refine w_aload_n (q := 78) rfl rfl rfl ?_
    refine w_gfr (q := 81) rfl rfl rfl rfl (j := 122) rfl ?_
    refine w_iload_n (q := 82) rfl rfl rfl ?_
    refine w_aload_n (q := 83) rfl rfl rfl ?_
    refine w_gfr (q := 86) rfl rfl rfl rfl (j := 109) rfl ?_
    refine w_iload_n (q := 87) rfl rfl rfl ?_
    obtain ⟨h4, k⟩ := k
    refine w_jald (q := 88) (n := 2001) (v := J 109 l2) rfl rfl rfl rfl rfl rfl h4 ?_
    obtain ⟨h5, k⟩ := k
    refine w_jast (q := 89) (n := 24) rfl rfl rfl rfl rfl h5 ?_
    refine w_aload_n (q := 90) rfl rfl rfl ?_
    refine w_bipush (q := 92) rfl rfl rfl ?_
    refine w_iload_n (q := 93) rfl rfl rfl ?_
    refine w_iadd (q := 94) rfl rfl ?_
    refine w_aload_n (q := 95) rfl rfl rfl ?_
    refine w_iconst (q := 96) rfl rfl ?_
    refine w_callv (q := 99) rfl rfl rfl rfl rfl rfl ?_
    exact k
  · replace k := k.2 c3
    refine w_aload_n (q := 50) rfl rfl rfl ?_
    refine w_gfr (q := 53) rfl rfl rfl rfl (j := 122) rfl ?_
    refine w_iload_n (q := 54) rfl rfl rfl ?_
    obtain ⟨h6, k⟩ := k
    refine w_jald (q := 55) (n := 24) (v := J 122 l3) rfl rfl rfl rfl rfl rfl h6 ?_
    refine w_aload_n (q := 56) rfl rfl rfl ?_
    refine w_gfr (q := 59) rfl rfl rfl rfl (j := 109) rfl ?_
    refine w_iload_n (q := 60) rfl rfl rfl ?_
    obtain ⟨h7, k⟩ := k
    refine w_jald (q := 61) (n := 2001) (v := J 109 l2) rfl rfl rfl rfl rfl rfl h7 ?_
    obtain ⟨h8, h9, k⟩ := k
    refine w_lcmp (q := 62) rfl rfl h8 h9 ?_
    refine w_zne (t := 71) (q := 65) rfl rfl rfl (w_cmp_in _ _) (fun c1 => ?_) (fun c1 => ?_)
    · replace k := k.1 (w_cmp_ne c1)
      refine w_iinc (q := 74) (L' := [some (.ref 104), some (w_i l1), some (w_i l2), some (w_i (l3 + 1))]) (M' := []) rfl rfl rfl rfl rfl rfl ?_
      refine w_goto (t := 44) rfl rfl ?_
      exact k
    · replace k := k.2 (w_cmp_eq c1)
      refine w_aload_n (q := 66) rfl rfl rfl ?_
      refine w_iconst (q := 67) rfl rfl ?_
      refine w_iload_n (q := 68) rfl rfl rfl ?_
      refine w_callv (q := 71) rfl rfl rfl rfl rfl rfl ?_
      exact k
theorem b193_99 {xs : Nat → Int32} {xl : Nat} {I J : w_I} {b : Bool} {Q : Option Value → w_I → w_I → Bool → Prop} {l1 s1 s2 : Int} {u2 u3 : Option Value} (k : ((-2147483648 ≤ s2 ∧ s2 < 2147483648) ∧ ((s2 = 0 → w_C xs xl 179 [.ref 104, w_i 2] I J b (fun v Ic Jc bc => w_T xs xl 193 111 [some (.ref 104), some (w_i l1), u2, u3] [] (w_pv v [w_i s1, .ref 104]) Ic Jc bc Q)) ∧ (¬ s2 = 0 → w_C xs xl 190 [.ref 104, w_i s1, w_i 1] I J b (fun v Ic Jc bc => w_T xs xl 193 122 [some (.ref 104), some (w_i l1), u2, u3] [] (w_pv v []) Ic Jc bc Q))))) : w_T xs xl 193 99 [some (.ref 104), some (w_i l1), u2, u3] [] [w_i s2, w_i s1, .ref 104] I J b Q := by
  obtain ⟨h1, k⟩ := k
  refine w_zeq (t := 106) (q := 102) rfl rfl rfl h1 (fun c2 => ?_) (fun c2 => ?_)
  · replace k := k.1 c2
    refine w_aload_n (q := 107) rfl rfl rfl ?_
    refine w_iconst (q := 108) rfl rfl ?_
    refine w_callv (q := 111) rfl rfl rfl rfl rfl rfl ?_
    exact k
  · replace k := k.2 c2
    refine w_iconst (q := 103) rfl rfl ?_
    refine w_goto (t := 119) rfl rfl ?_
    refine w_callv (q := 122) rfl rfl rfl rfl rfl rfl ?_
    exact k
theorem b193_71 {xs : Nat → Int32} {xl : Nat} {I J : w_I} {b : Bool} {Q : Option Value → w_I → w_I → Bool → Prop} {l1 l2 l3 : Int} (k : w_T xs xl 193 44 [some (.ref 104), some (w_i l1), some (w_i l2), some (w_i (l3 + 1))] [] [] I J b Q) : w_T xs xl 193 71 [some (.ref 104), some (w_i l1), some (w_i l2), some (w_i l3)] [] [] I J b Q := by
  refine w_iinc (q := 74) (L' := [some (.ref 104), some (w_i l1), some (w_i l2), some (w_i (l3 + 1))]) (M' := []) rfl rfl rfl rfl rfl rfl ?_
  refine w_goto (t := 44) rfl rfl ?_
  exact k
theorem b193_111 {xs : Nat → Int32} {xl : Nat} {I J : w_I} {b : Bool} {Q : Option Value → w_I → w_I → Bool → Prop} {l1 s1 s2 : Int} {u2 u3 : Option Value} (k : ((-2147483648 ≤ s2 ∧ s2 < 2147483648) ∧ ((s2 = 0 → w_C xs xl 190 [.ref 104, w_i s1, w_i 0] I J b (fun v Ic Jc bc => w_T xs xl 193 122 [some (.ref 104), some (w_i l1), u2, u3] [] (w_pv v []) Ic Jc bc Q)) ∧ (¬ s2 = 0 → w_C xs xl 190 [.ref 104, w_i s1, w_i 2] I J b (fun v Ic Jc bc => w_T xs xl 193 122 [some (.ref 104), some (w_i l1), u2, u3] [] (w_pv v []) Ic Jc bc Q))))) : w_T xs xl 193 111 [some (.ref 104), some (w_i l1), u2, u3] [] [w_i s2, w_i s1, .ref 104] I J b Q := by
  obtain ⟨h1, k⟩ := k
  refine w_zeq (t := 118) (q := 114) rfl rfl rfl h1 (fun c2 => ?_) (fun c2 => ?_)
  · replace k := k.1 c2
    refine w_iconst (q := 119) rfl rfl ?_
    refine w_callv (q := 122) rfl rfl rfl rfl rfl rfl ?_
    exact k
  · replace k := k.2 c2
    refine w_iconst (q := 115) rfl rfl ?_
    refine w_goto (t := 119) rfl rfl ?_
    refine w_callv (q := 122) rfl rfl rfl rfl rfl rfl ?_
    exact k
theorem b193_122 {xs : Nat → Int32} {xl : Nat} {I J : w_I} {b : Bool} {Q : Option Value → w_I → w_I → Bool → Prop} {l1 : Int} {u2 u3 : Option Value} (k : w_C xs xl 189 [.ref 104, w_i (20 + l1)] I J b (fun v Ic Jc bc => w_T xs xl 193 130 [some (.ref 104), some (w_i l1), u2, u3] [] (w_pv v []) Ic Jc bc Q)) : w_T xs xl 193 122 [some (.ref 104), some (w_i l1), u2, u3] [] [] I J b Q := by
  refine w_aload_n (q := 123) rfl rfl rfl ?_
  refine w_bipush (q := 125) rfl rfl rfl ?_
  refine w_iload_n (q := 126) rfl rfl rfl ?_
  refine w_iadd (q := 127) rfl rfl ?_
  refine w_callv (q := 130) rfl rfl rfl rfl rfl rfl ?_
  exact k
theorem b193_130 {xs : Nat → Int32} {xl : Nat} {I J : w_I} {b : Bool} {Q : Option Value → w_I → w_I → Bool → Prop} {l1 s0 : Int} {u2 u3 : Option Value} (k : ((-2147483648 ≤ s0 ∧ s0 < 2147483648) ∧ ((s0 ≤ 0 → w_C xs xl 181 [.ref 104, w_i 0, w_i 99] I J b (fun v Ic Jc bc => w_T xs xl 193 149 [some (.ref 104), some (w_i l1), u2, u3] [] (w_pv v []) Ic Jc bc Q)) ∧ (¬ s0 ≤ 0 → w_C xs xl 177 [.ref 104] I J b (fun v Ic Jc bc => w_T xs xl 193 137 [some (.ref 104), some (w_i l1), u2, u3] [] (w_pv v []) Ic Jc bc Q))))) : w_T xs xl 193 130 [some (.ref 104), some (w_i l1), u2, u3] [] [w_i s0] I J b Q := by
  obtain ⟨h1, k⟩ := k
  refine w_zle (t := 142) (q := 133) rfl rfl rfl h1 (fun c2 => ?_) (fun c2 => ?_)
  · replace k := k.1 c2
    refine w_aload_n (q := 143) rfl rfl rfl ?_
    refine w_iconst (q := 144) rfl rfl ?_
    refine w_bipush (q := 146) rfl rfl rfl ?_
    refine w_callv (q := 149) rfl rfl rfl rfl rfl rfl ?_
    exact k
  · replace k := k.2 c2
    refine w_aload_n (q := 134) rfl rfl rfl ?_
    refine w_callv (q := 137) rfl rfl rfl rfl rfl rfl ?_
    exact k
theorem b193_149 {xs : Nat → Int32} {xl : Nat} {I J : w_I} {b : Bool} {Q : Option Value → w_I → w_I → Bool → Prop} {l1 s0 : Int} {u2 u3 : Option Value} (k : ((-2147483648 ≤ s0 ∧ s0 < 2147483648) ∧ ((¬ s0 = 0 → w_C xs xl 190 [.ref 104, w_i (50 + l1), w_i (I 104 25)] I J b (fun v Ic Jc bc => w_T xs xl 193 166 [some (.ref 104), some (w_i l1), u2, u3] [] (w_pv v []) Ic Jc bc Q)) ∧ (s0 = 0 → Q (some (w_i 0)) I J b)))) : w_T xs xl 193 149 [some (.ref 104), some (w_i l1), u2, u3] [] [w_i s0] I J b Q := by
  obtain ⟨h1, k⟩ := k
  refine w_zne (t := 154) (q := 152) rfl rfl rfl h1 (fun c2 => ?_) (fun c2 => ?_)
  · replace k := k.1 c2
    refine w_aload_n (q := 155) rfl rfl rfl ?_
    refine w_bipush (q := 157) rfl rfl rfl ?_
    refine w_iload_n (q := 158) rfl rfl rfl ?_
    refine w_iadd (q := 159) rfl rfl ?_
    refine w_aload_n (q := 160) rfl rfl rfl ?_
    refine w_gfi (q := 163) (k' := 25) (v := I 104 25) rfl rfl rfl rfl rfl rfl rfl ?_
    refine w_callv (q := 166) rfl rfl rfl rfl rfl rfl ?_
    exact k
  · replace k := k.2 c2
    refine w_iconst (q := 153) rfl rfl ?_
    refine w_iret rfl rfl k
theorem b193_137 {xs : Nat → Int32} {xl : Nat} {I J : w_I} {b : Bool} {Q : Option Value → w_I → w_I → Bool → Prop} {l1 s0 : Int} {u2 u3 : Option Value} (k : ((-2147483648 ≤ s0 ∧ s0 < 2147483648) ∧ ((¬ s0 = 0 → w_C xs xl 181 [.ref 104, w_i 0, w_i 99] I J b (fun v Ic Jc bc => w_T xs xl 193 149 [some (.ref 104), some (w_i l1), u2, u3] [] (w_pv v []) Ic Jc bc Q)) ∧ (s0 = 0 → Q (some (w_i 0)) I J b)))) : w_T xs xl 193 137 [some (.ref 104), some (w_i l1), u2, u3] [] [w_i s0] I J b Q := by
  obtain ⟨h1, k⟩ := k
  refine w_zne (t := 142) (q := 140) rfl rfl rfl h1 (fun c2 => ?_) (fun c2 => ?_)
  · replace k := k.1 c2
    refine w_aload_n (q := 143) rfl rfl rfl ?_
    refine w_iconst (q := 144) rfl rfl ?_
    refine w_bipush (q := 146) rfl rfl rfl ?_
    refine w_callv (q := 149) rfl rfl rfl rfl rfl rfl ?_
    exact k
  · replace k := k.2 c2
    refine w_iconst (q := 141) rfl rfl ?_
    refine w_iret rfl rfl k
theorem b193_166 {xs : Nat → Int32} {xl : Nat} {I J : w_I} {b : Bool} {Q : Option Value → w_I → w_I → Bool → Prop} {l1 : Int} {u2 u3 : Option Value} (k : w_C xs xl 190 [.ref 104, w_i 0, w_i (l1 + 1)] I J b (fun v Ic Jc bc => w_T xs xl 193 174 [some (.ref 104), some (w_i l1), u2, u3] [] (w_pv v []) Ic Jc bc Q)) : w_T xs xl 193 166 [some (.ref 104), some (w_i l1), u2, u3] [] [] I J b Q := by
  refine w_aload_n (q := 167) rfl rfl rfl ?_
  refine w_iconst (q := 168) rfl rfl ?_
  refine w_iload_n (q := 169) rfl rfl rfl ?_
  refine w_iconst (q := 170) rfl rfl ?_
  refine w_iadd (q := 171) rfl rfl ?_
  refine w_callv (q := 174) rfl rfl rfl rfl rfl rfl ?_
  exact k
theorem b193_174 {xs : Nat → Int32} {xl : Nat} {I J : w_I} {b : Bool} {Q : Option Value → w_I → w_I → Bool → Prop} {u1 u2 u3 : Option Value} (k : Q (some (w_i 1)) I J b) : w_T xs xl 193 174 [some (.ref 104), u1, u2, u3] [] [] I J b Q := by
  refine w_iconst (q := 175) rfl rfl ?_
  refine w_iret rfl rfl k
theorem e194 {xs : Nat → Int32} {xl : Nat} {I J : w_I} {b : Bool} {Q : Option Value → w_I → w_I → Bool → Prop} {a1 a2 : Int} (t : w_T xs xl 194 0 [some (.ref 104), some (w_i a1), some (w_i a2)] [] [] I J b Q) : w_C xs xl 194 [.ref 104, w_i a1, w_i a2] I J b Q := w_en rfl t
theorem b194_0 {xs : Nat → Int32} {xl : Nat} {I J : w_I} {b : Bool} {Q : Option Value → w_I → w_I → Bool → Prop} {a1 a2 : Int} (k : w_C xs xl 177 [.ref 104] I J b (fun v Ic Jc bc => w_T xs xl 194 4 [some (.ref 104), some (w_i a1), some (w_i a2)] [] (w_pv v []) Ic Jc bc Q)) : w_T xs xl 194 0 [some (.ref 104), some (w_i a1), some (w_i a2)] [] [] I J b Q := by
  refine w_aload_n (q := 1) rfl rfl rfl ?_
  refine w_callv (q := 4) rfl rfl rfl rfl rfl rfl ?_
  exact k
theorem b194_4 {xs : Nat → Int32} {xl : Nat} {I J : w_I} {b : Bool} {Q : Option Value → w_I → w_I → Bool → Prop} {l1 l2 s0 : Int} (k : ((-2147483648 ≤ s0 ∧ s0 < 2147483648) ∧ ((s0 = 0 → Q (some (w_i 0)) I J b) ∧ (¬ s0 = 0 → w_C xs xl 181 [.ref 104, w_i 1, w_i l2] I J b (fun v Ic Jc bc => w_T xs xl 194 13 [some (.ref 104), some (w_i l1), some (w_i l2)] [] (w_pv v []) Ic Jc bc Q))))) : w_T xs xl 194 4 [some (.ref 104), some (w_i l1), some (w_i l2)] [] [w_i s0] I J b Q := by
  obtain ⟨h1, k⟩ := k
  refine w_zeq (t := 16) (q := 7) rfl rfl rfl h1 (fun c2 => ?_) (fun c2 => ?_)
  · replace k := k.1 c2
    refine w_iconst (q := 17) rfl rfl ?_
    refine w_iret rfl rfl k
  · replace k := k.2 c2
    refine w_aload_n (q := 8) rfl rfl rfl ?_
    refine w_iconst (q := 9) rfl rfl ?_
    refine w_iload_n (q := 10) rfl rfl rfl ?_
    refine w_callv (q := 13) rfl rfl rfl rfl rfl rfl ?_
    exact k
theorem b194_13 {xs : Nat → Int32} {xl : Nat} {I J : w_I} {b : Bool} {Q : Option Value → w_I → w_I → Bool → Prop} {l1 s0 : Int} {u2 : Option Value} (k : ((-2147483648 ≤ s0 ∧ s0 < 2147483648) ∧ ((¬ s0 = 0 → w_C xs xl 190 [.ref 104, w_i l1, w_i (I 104 25)] I J b (fun v Ic Jc bc => w_T xs xl 194 27 [some (.ref 104), some (w_i l1), u2] [] (w_pv v []) Ic Jc bc Q)) ∧ (s0 = 0 → Q (some (w_i 0)) I J b)))) : w_T xs xl 194 13 [some (.ref 104), some (w_i l1), u2] [] [w_i s0] I J b Q := by
  obtain ⟨h1, k⟩ := k
  refine w_zne (t := 18) (q := 16) rfl rfl rfl h1 (fun c2 => ?_) (fun c2 => ?_)
  · replace k := k.1 c2
    refine w_aload_n (q := 19) rfl rfl rfl ?_
    refine w_iload_n (q := 20) rfl rfl rfl ?_
    refine w_aload_n (q := 21) rfl rfl rfl ?_
    refine w_gfi (q := 24) (k' := 25) (v := I 104 25) rfl rfl rfl rfl rfl rfl rfl ?_
    refine w_callv (q := 27) rfl rfl rfl rfl rfl rfl ?_
    exact k
  · replace k := k.2 c2
    refine w_iconst (q := 17) rfl rfl ?_
    refine w_iret rfl rfl k
theorem b194_27 {xs : Nat → Int32} {xl : Nat} {I J : w_I} {b : Bool} {Q : Option Value → w_I → w_I → Bool → Prop} {u1 u2 : Option Value} (k : Q (some (w_i 1)) I J b) : w_T xs xl 194 27 [some (.ref 104), u1, u2] [] [] I J b Q := by
  refine w_iconst (q := 28) rfl rfl ?_
  refine w_iret rfl rfl k
theorem e195 {xs : Nat → Int32} {xl : Nat} {I J : w_I} {b : Bool} {Q : Option Value → w_I → w_I → Bool → Prop} (t : w_T xs xl 195 0 [some (.ref 104)] [] [] I J b Q) : w_C xs xl 195 [.ref 104] I J b Q := w_en rfl t
theorem b195_0 {xs : Nat → Int32} {xl : Nat} {I J : w_I} {b : Bool} {Q : Option Value → w_I → w_I → Bool → Prop} (k : w_C xs xl 177 [.ref 104] I J b (fun v Ic Jc bc => w_T xs xl 195 4 [some (.ref 104)] [] (w_pv v []) Ic Jc bc Q)) : w_T xs xl 195 0 [some (.ref 104)] [] [] I J b Q := by
  refine w_aload_n (q := 1) rfl rfl rfl ?_
  refine w_callv (q := 4) rfl rfl rfl rfl rfl rfl ?_
  exact k
theorem b195_4 {xs : Nat → Int32} {xl : Nat} {I J : w_I} {b : Bool} {Q : Option Value → w_I → w_I → Bool → Prop} {s0 : Int} (k : ((-2147483648 ≤ s0 ∧ s0 < 2147483648) ∧ ((¬ s0 = 0 → w_C xs xl 179 [.ref 104, w_i 6] I J b (fun v Ic Jc bc => w_T xs xl 195 15 [some (.ref 104)] [] (w_pv v []) Ic Jc bc Q)) ∧ (s0 = 0 → Q (some (w_i 0)) I J b)))) : w_T xs xl 195 4 [some (.ref 104)] [] [w_i s0] I J b Q := by
  obtain ⟨h1, k⟩ := k
  refine w_zne (t := 9) (q := 7) rfl rfl rfl h1 (fun c2 => ?_) (fun c2 => ?_)
  · replace k := k.1 c2
    refine w_aload_n (q := 10) rfl rfl rfl ?_
    refine w_bipush (q := 12) rfl rfl rfl ?_
    refine w_callv (q := 15) rfl rfl rfl rfl rfl rfl ?_
    exact k
  · replace k := k.2 c2
    refine w_iconst (q := 8) rfl rfl ?_
    refine w_iret rfl rfl k
theorem b195_15 {xs : Nat → Int32} {xl : Nat} {I J : w_I} {b : Bool} {Q : Option Value → w_I → w_I → Bool → Prop} {s0 : Int} (k : ((-2147483648 ≤ s0 ∧ s0 < 2147483648) ∧ ((¬ s0 = 0 → w_C xs xl 179 [.ref 104, w_i 7] I J b (fun v Ic Jc bc => w_T xs xl 195 41 [some (.ref 104)] [] (w_pv v [w_i 3, .ref 104]) Ic Jc bc Q)) ∧ (s0 = 0 → w_C xs xl 179 [.ref 104, w_i 7] I J b (fun v Ic Jc bc => w_T xs xl 195 24 [some (.ref 104)] [] (w_pv v []) Ic Jc bc Q))))) : w_T xs xl 195 15 [some (.ref 104)] [] [w_i s0] I J b Q := by
  obtain ⟨h1, k⟩ := k
  refine w_zne (t := 33) (q := 18) rfl rfl rfl h1 (fun c2 => ?_) (fun c2 => ?_)
  · replace k := k.1 c2
    refine w_aload_n (q := 34) rfl rfl rfl ?_
    refine w_iconst (q := 35) rfl rfl ?_
    refine w_aload_n (q := 36) rfl rfl rfl ?_
    refine w_bipush (q := 38) rfl rfl rfl ?_
    refine w_callv (q := 41) rfl rfl rfl rfl rfl rfl ?_
    exact k
  · replace k := k.2 c2
    refine w_aload_n (q := 19) rfl rfl rfl ?_
    refine w_bipush (q := 21) rfl rfl rfl ?_
    refine w_callv (q := 24) rfl rfl rfl rfl rfl rfl ?_
    exact k
theorem b195_41 {xs : Nat → Int32} {xl : Nat} {I J : w_I} {b : Bool} {Q : Option Value → w_I → w_I → Bool → Prop} {s1 s2 : Int} (k : ((-2147483648 ≤ s2 ∧ s2 < 2147483648) ∧ ((s2 = 0 → w_C xs xl 190 [.ref 104, w_i s1, w_i 0] I J b (fun v Ic Jc bc => w_T xs xl 195 52 [some (.ref 104)] [] (w_pv v []) Ic Jc bc Q)) ∧ (¬ s2 = 0 → w_C xs xl 190 [.ref 104, w_i s1, w_i 1] I J b (fun v Ic Jc bc => w_T xs xl 195 52 [some (.ref 104)] [] (w_pv v []) Ic Jc bc Q))))) : w_T xs xl 195 41 [some (.ref 104)] [] [w_i s2, w_i s1, .ref 104] I J b Q := by
  obtain ⟨h1, k⟩ := k
  refine w_zeq (t := 48) (q := 44) rfl rfl rfl h1 (fun c2 => ?_) (fun c2 => ?_)
  · replace k := k.1 c2
    refine w_iconst (q := 49) rfl rfl ?_
    refine w_callv (q := 52) rfl rfl rfl rfl rfl rfl ?_
    exact k
  · replace k := k.2 c2
    refine w_iconst (q := 45) rfl rfl ?_
    refine w_goto (t := 49) rfl rfl ?_
    refine w_callv (q := 52) rfl rfl rfl rfl rfl rfl ?_
    exact k
theorem b195_24 {xs : Nat → Int32} {xl : Nat} {I J : w_I} {b : Bool} {Q : Option Value → w_I → w_I → Bool → Prop} {s0 : Int} (k : ((-2147483648 ≤ s0 ∧ s0 < 2147483648) ∧ ((¬ s0 = 0 → w_C xs xl 179 [.ref 104, w_i 7] I J b (fun v Ic Jc bc => w_T xs xl 195 41 [some (.ref 104)] [] (w_pv v [w_i 3, .ref 104]) Ic Jc bc Q)) ∧ (s0 = 0 → w_C xs xl 175 [.ref 104, w_i 1] I J b (fun v Ic Jc bc => w_T xs xl 195 32 [some (.ref 104)] [] (w_pv v []) Ic Jc bc Q))))) : w_T xs xl 195 24 [some (.ref 104)] [] [w_i s0] I J b Q := by
  obtain ⟨h1, k⟩ := k
  refine w_zne (t := 33) (q := 27) rfl rfl rfl h1 (fun c2 => ?_) (fun c2 => ?_)
  · replace k := k.1 c2
    refine w_aload_n (q := 34) rfl rfl rfl ?_
    refine w_iconst (q := 35) rfl rfl ?_
    refine w_aload_n (q := 36) rfl rfl rfl ?_
    refine w_bipush (q := 38) rfl rfl rfl ?_
    refine w_callv (q := 41) rfl rfl rfl rfl rfl rfl ?_
    exact k
  · replace k := k.2 c2
    refine w_aload_n (q := 28) rfl rfl rfl ?_
    refine w_iconst (q := 29) rfl rfl ?_
    refine w_callv (q := 32) rfl rfl rfl rfl rfl rfl ?_
    exact k
theorem b195_52 {xs : Nat → Int32} {xl : Nat} {I J : w_I} {b : Bool} {Q : Option Value → w_I → w_I → Bool → Prop} (k : w_C xs xl 177 [.ref 104] I J b (fun v Ic Jc bc => w_T xs xl 195 56 [some (.ref 104)] [] (w_pv v []) Ic Jc bc Q)) : w_T xs xl 195 52 [some (.ref 104)] [] [] I J b Q := by
  refine w_aload_n (q := 53) rfl rfl rfl ?_
  refine w_callv (q := 56) rfl rfl rfl rfl rfl rfl ?_
  exact k
theorem b195_32 {xs : Nat → Int32} {xl : Nat} {I J : w_I} {b : Bool} {Q : Option Value → w_I → w_I → Bool → Prop} {s0 : Int} (k : ((s0 = 0 ∨ s0 = 1) ∧ Q (some (w_i s0)) I J b)) : w_T xs xl 195 32 [some (.ref 104)] [] [w_i s0] I J b Q := by
  obtain ⟨h1, k⟩ := k
  refine w_iret rfl (w_nz1 h1) k
theorem b195_56 {xs : Nat → Int32} {xl : Nat} {I J : w_I} {b : Bool} {Q : Option Value → w_I → w_I → Bool → Prop} {s0 : Int} (k : ((s0 = 0 ∨ s0 = 1) ∧ Q (some (w_i s0)) I J b)) : w_T xs xl 195 56 [some (.ref 104)] [] [w_i s0] I J b Q := by
  obtain ⟨h1, k⟩ := k
  refine w_iret rfl (w_nz1 h1) k
theorem e196 {xs : Nat → Int32} {xl : Nat} {I J : w_I} {b : Bool} {Q : Option Value → w_I → w_I → Bool → Prop} {a1 : Int} (t : w_T xs xl 196 0 [some (.ref 104), some (w_i a1)] [] [] I J b Q) : w_C xs xl 196 [.ref 104, w_i a1] I J b Q := w_en rfl t
theorem b196_0 {xs : Nat → Int32} {xl : Nat} {I J : w_I} {b : Bool} {Q : Option Value → w_I → w_I → Bool → Prop} {a1 : Int} (k : w_C xs xl 177 [.ref 104] I J b (fun v Ic Jc bc => w_T xs xl 196 4 [some (.ref 104), some (w_i a1)] [] (w_pv v []) Ic Jc bc Q)) : w_T xs xl 196 0 [some (.ref 104), some (w_i a1)] [] [] I J b Q := by
  refine w_aload_n (q := 1) rfl rfl rfl ?_
  refine w_callv (q := 4) rfl rfl rfl rfl rfl rfl ?_
  exact k
theorem b196_4 {xs : Nat → Int32} {xl : Nat} {I J : w_I} {b : Bool} {Q : Option Value → w_I → w_I → Bool → Prop} {l1 s0 : Int} (k : ((-2147483648 ≤ s0 ∧ s0 < 2147483648) ∧ ((¬ s0 = 0 → w_C xs xl 178 [.ref 104, w_i 61] I J b (fun v Ic Jc bc => w_T xs xl 196 15 [some (.ref 104), some (w_i l1)] [] (w_pv v []) Ic Jc bc Q)) ∧ (s0 = 0 → Q (some (w_i 0)) I J b)))) : w_T xs xl 196 4 [some (.ref 104), some (w_i l1)] [] [w_i s0] I J b Q := by
  obtain ⟨h1, k⟩ := k
  refine w_zne (t := 9) (q := 7) rfl rfl rfl h1 (fun c2 => ?_) (fun c2 => ?_)
  · replace k := k.1 c2
    refine w_aload_n (q := 10) rfl rfl rfl ?_
    refine w_bipush (q := 12) rfl rfl rfl ?_
    refine w_callv (q := 15) rfl rfl rfl rfl rfl rfl ?_
    exact k
  · replace k := k.2 c2
    refine w_iconst (q := 8) rfl rfl ?_
    refine w_iret rfl rfl k
theorem b196_15 {xs : Nat → Int32} {xl : Nat} {I J : w_I} {b : Bool} {Q : Option Value → w_I → w_I → Bool → Prop} {l1 s0 : Int} (k : ((-2147483648 ≤ s0 ∧ s0 < 2147483648) ∧ ((¬ s0 = 0 → w_C xs xl 177 [.ref 104] I J b (fun v Ic Jc bc => w_T xs xl 196 28 [some (.ref 104), some (w_i l1)] [] (w_pv v []) Ic Jc bc Q)) ∧ (s0 = 0 → w_C xs xl 175 [.ref 104, w_i 1] I J b (fun v Ic Jc bc => w_T xs xl 196 23 [some (.ref 104), some (w_i l1)] [] (w_pv v []) Ic Jc bc Q))))) : w_T xs xl 196 15 [some (.ref 104), some (w_i l1)] [] [w_i s0] I J b Q := by
  obtain ⟨h1, k⟩ := k
  refine w_zne (t := 24) (q := 18) rfl rfl rfl h1 (fun c2 => ?_) (fun c2 => ?_)
  · replace k := k.1 c2
    refine w_aload_n (q := 25) rfl rfl rfl ?_
    refine w_callv (q := 28) rfl rfl rfl rfl rfl rfl ?_
    exact k
  · replace k := k.2 c2
    refine w_aload_n (q := 19) rfl rfl rfl ?_
    refine w_iconst (q := 20) rfl rfl ?_
    refine w_callv (q := 23) rfl rfl rfl rfl rfl rfl ?_
    exact k
theorem b196_28 {xs : Nat → Int32} {xl : Nat} {I J : w_I} {b : Bool} {Q : Option Value → w_I → w_I → Bool → Prop} {l1 s0 : Int} (k : ((-2147483648 ≤ s0 ∧ s0 < 2147483648) ∧ ((s0 = 0 → Q (some (w_i 0)) I J b) ∧ (¬ s0 = 0 → w_C xs xl 187 [.ref 104] I J b (fun v Ic Jc bc => w_T xs xl 196 35 [some (.ref 104), some (w_i l1)] [] (w_pv v []) Ic Jc bc Q))))) : w_T xs xl 196 28 [some (.ref 104), some (w_i l1)] [] [w_i s0] I J b Q := by
  obtain ⟨h1, k⟩ := k
  refine w_zeq (t := 38) (q := 31) rfl rfl rfl h1 (fun c2 => ?_) (fun c2 => ?_)
  · replace k := k.1 c2
    refine w_iconst (q := 39) rfl rfl ?_
    refine w_iret rfl rfl k
  · replace k := k.2 c2
    refine w_aload_n (q := 32) rfl rfl rfl ?_
    refine w_callv (q := 35) rfl rfl rfl rfl rfl rfl ?_
    exact k
theorem b196_23 {xs : Nat → Int32} {xl : Nat} {I J : w_I} {b : Bool} {Q : Option Value → w_I → w_I → Bool → Prop} {u1 : Option Value} {s0 : Int} (k : ((s0 = 0 ∨ s0 = 1) ∧ Q (some (w_i s0)) I J b)) : w_T xs xl 196 23 [some (.ref 104), u1] [] [w_i s0] I J b Q := by
  obtain ⟨h1, k⟩ := k
  refine w_iret rfl (w_nz1 h1) k
theorem b196_35 {xs : Nat → Int32} {xl : Nat} {I J : w_I} {b : Bool} {Q : Option Value → w_I → w_I → Bool → Prop} {l1 s0 : Int} (k : ((-2147483648 ≤ s0 ∧ s0 < 2147483648) ∧ ((¬ s0 = 0 → w_C xs xl 190 [.ref 104, w_i (11 + 2 * l1), w_i (I 104 28)] I J b (fun v Ic Jc bc => w_T xs xl 196 54 [some (.ref 104), some (w_i l1)] [] (w_pv v []) Ic Jc bc Q)) ∧ (s0 = 0 → Q (some (w_i 0)) I J b)))) : w_T xs xl 196 35 [some (.ref 104), some (w_i l1)] [] [w_i s0] I J b Q := by
  obtain ⟨h1, k⟩ := k
  refine w_zne (t := 40) (q := 38) rfl rfl rfl h1 (fun c2 => ?_) (fun c2 => ?_)
  · replace k := k.1 c2
    refine w_aload_n (q := 41) rfl rfl rfl ?_
    refine w_bipush (q := 43) rfl rfl rfl ?_
    refine w_iconst (q := 44) rfl rfl ?_
    refine w_iload_n (q := 45) rfl rfl rfl ?_
    refine w_imul (q := 46) rfl rfl ?_
    refine w_iadd (q := 47) rfl rfl ?_
    refine w_aload_n (q := 48) rfl rfl rfl ?_
    refine w_gfi (q := 51) (k' := 28) (v := I 104 28) rfl rfl rfl rfl rfl rfl rfl ?_
    refine w_callv (q := 54) rfl rfl rfl rfl rfl rfl ?_
    exact k
  · replace k := k.2 c2
    refine w_iconst (q := 39) rfl rfl ?_
    refine w_iret rfl rfl k
theorem b196_54 {xs : Nat → Int32} {xl : Nat} {I J : w_I} {b : Bool} {Q : Option Value → w_I → w_I → Bool → Prop} {l1 : Int} (k : w_C xs xl 190 [.ref 104, w_i (11 + 2 * l1 + 1), w_i (I 111 1)] I J b (fun v Ic Jc bc => w_T xs xl 196 72 [some (.ref 104), some (w_i l1)] [] (w_pv v []) Ic Jc bc Q)) : w_T xs xl 196 54 [some (.ref 104), some (w_i l1)] [] [] I J b Q := by
  refine w_aload_n (q := 55) rfl rfl rfl ?_
  refine w_bipush (q := 57) rfl rfl rfl ?_
  refine w_iconst (q := 58) rfl rfl ?_
  refine w_iload_n (q := 59) rfl rfl rfl ?_
  refine w_imul (q := 60) rfl rfl ?_
  refine w_iadd (q := 61) rfl rfl ?_
  refine w_iconst (q := 62) rfl rfl ?_
  refine w_iadd (q := 63) rfl rfl ?_
  refine w_aload_n (q := 64) rfl rfl rfl ?_
  refine w_gfr (q := 67) rfl rfl rfl rfl (j := 111) rfl ?_
  refine w_iconst (q := 68) rfl rfl ?_
  refine w_iald (q := 69) (n := 4) (v := I 111 1) rfl rfl rfl rfl rfl rfl (by decide) ?_
  refine w_callv (q := 72) rfl rfl rfl rfl rfl rfl ?_
  exact k
theorem b196_72 {xs : Nat → Int32} {xl : Nat} {I J : w_I} {b : Bool} {Q : Option Value → w_I → w_I → Bool → Prop} {u1 : Option Value} (k : Q (some (w_i 1)) I J b) : w_T xs xl 196 72 [some (.ref 104), u1] [] [] I J b Q := by
  refine w_iconst (q := 73) rfl rfl ?_
  refine w_iret rfl rfl k
theorem e197 {xs : Nat → Int32} {xl : Nat} {I J : w_I} {b : Bool} {Q : Option Value → w_I → w_I → Bool → Prop} (t : w_T xs xl 197 0 [some (.ref 104), none] [] [] I J b Q) : w_C xs xl 197 [.ref 104] I J b Q := w_en rfl t
theorem b197_0 {xs : Nat → Int32} {xl : Nat} {I J : w_I} {b : Bool} {Q : Option Value → w_I → w_I → Bool → Prop} (k : w_C xs xl 189 [.ref 104, w_i 4] I J b (fun v Ic Jc bc => w_T xs xl 197 5 [some (.ref 104), none] [] (w_pv v []) Ic Jc bc Q)) : w_T xs xl 197 0 [some (.ref 104), none] [] [] I J b Q := by
  refine w_aload_n (q := 1) rfl rfl rfl ?_
  refine w_iconst (q := 2) rfl rfl ?_
  refine w_callv (q := 5) rfl rfl rfl rfl rfl rfl ?_
  exact k
theorem b197_5 {xs : Nat → Int32} {xl : Nat} {I J : w_I} {b : Bool} {Q : Option Value → w_I → w_I → Bool → Prop} {u1 : Option Value} {s0 : Int} (k : ((-2147483648 ≤ s0 ∧ s0 < 2147483648) ∧ ((¬ s0 = 6 → w_C xs xl 177 [.ref 104] I J b (fun v Ic Jc bc => w_T xs xl 197 22 [some (.ref 104), some (w_i s0)] [] (w_pv v []) Ic Jc bc Q)) ∧ (s0 = 6 → w_C xs xl 175 [.ref 104, w_i 2] I J b (fun v Ic Jc bc => w_T xs xl 197 17 [some (.ref 104), some (w_i s0)] [] (w_pv v []) Ic Jc bc Q))))) : w_T xs xl 197 5 [some (.ref 104), u1] [] [w_i s0] I J b Q := by
  refine w_istore_n (q := 6) (L' := [some (.ref 104), some (w_i s0)]) (M' := []) rfl rfl rfl rfl rfl ?_
  refine w_iload_n (q := 7) rfl rfl rfl ?_
  refine w_bipush (q := 9) rfl rfl rfl ?_
  obtain ⟨h1, k⟩ := k
  refine w_cne (t := 18) (q := 12) rfl rfl rfl h1 (by decide) (fun c2 => ?_) (fun c2 => ?_)
  · replace k := k.1 c2
    refine w_aload_n (q := 19) rfl rfl rfl ?_
    refine w_callv (q := 22) rfl rfl rfl rfl rfl rfl ?_
    exact k
  · replace k := k.2 c2
    refine w_aload_n (q := 13) rfl rfl rfl ?_
    refine w_iconst (q := 14) rfl rfl ?_
    refine w_callv (q := 17) rfl rfl rfl rfl rfl rfl ?_
    exact k
theorem b197_22 {xs : Nat → Int32} {xl : Nat} {I J : w_I} {b : Bool} {Q : Option Value → w_I → w_I → Bool → Prop} {l1 s0 : Int} (k : ((-2147483648 ≤ s0 ∧ s0 < 2147483648) ∧ ((¬ s0 = 0 → w_C xs xl 179 [.ref 104, w_i 8] I J b (fun v Ic Jc bc => w_T xs xl 197 33 [some (.ref 104), some (w_i l1)] [] (w_pv v []) Ic Jc bc Q)) ∧ (s0 = 0 → Q (some (w_i 0)) I J b)))) : w_T xs xl 197 22 [some (.ref 104), some (w_i l1)] [] [w_i s0] I J b Q := by
  obtain ⟨h1, k⟩ := k
  refine w_zne (t := 27) (q := 25) rfl rfl rfl h1 (fun c2 => ?_) (fun c2 => ?_)
  · replace k := k.1 c2
    refine w_aload_n (q := 28) rfl rfl rfl ?_
    refine w_bipush (q := 30) rfl rfl rfl ?_
    refine w_callv (q := 33) rfl rfl rfl rfl rfl rfl ?_
    exact k
  · replace k := k.2 c2
    refine w_iconst (q := 26) rfl rfl ?_
    refine w_iret rfl rfl k
theorem b197_17 {xs : Nat → Int32} {xl : Nat} {I J : w_I} {b : Bool} {Q : Option Value → w_I → w_I → Bool → Prop} {u1 : Option Value} {s0 : Int} (k : ((s0 = 0 ∨ s0 = 1) ∧ Q (some (w_i s0)) I J b)) : w_T xs xl 197 17 [some (.ref 104), u1] [] [w_i s0] I J b Q := by
  obtain ⟨h1, k⟩ := k
  refine w_iret rfl (w_nz1 h1) k
theorem b197_33 {xs : Nat → Int32} {xl : Nat} {I J : w_I} {b : Bool} {Q : Option Value → w_I → w_I → Bool → Prop} {l1 s0 : Int} (k : ((-2147483648 ≤ s0 ∧ s0 < 2147483648) ∧ ((¬ s0 = 0 → w_C xs xl 177 [.ref 104] I J b (fun v Ic Jc bc => w_T xs xl 197 46 [some (.ref 104), some (w_i l1)] [] (w_pv v []) Ic Jc bc Q)) ∧ (s0 = 0 → w_C xs xl 175 [.ref 104, w_i 1] I J b (fun v Ic Jc bc => w_T xs xl 197 41 [some (.ref 104), some (w_i l1)] [] (w_pv v []) Ic Jc bc Q))))) : w_T xs xl 197 33 [some (.ref 104), some (w_i l1)] [] [w_i s0] I J b Q := by
  obtain ⟨h1, k⟩ := k
  refine w_zne (t := 42) (q := 36) rfl rfl rfl h1 (fun c2 => ?_) (fun c2 => ?_)
  · replace k := k.1 c2
    refine w_aload_n (q := 43) rfl rfl rfl ?_
    refine w_callv (q := 46) rfl rfl rfl rfl rfl rfl ?_
    exact k
  · replace k := k.2 c2
    refine w_aload_n (q := 37) rfl rfl rfl ?_
    refine w_iconst (q := 38) rfl rfl ?_
    refine w_callv (q := 41) rfl rfl rfl rfl rfl rfl ?_
    exact k
theorem b197_46 {xs : Nat → Int32} {xl : Nat} {I J : w_I} {b : Bool} {Q : Option Value → w_I → w_I → Bool → Prop} {l1 s0 : Int} (k : ((-2147483648 ≤ s0 ∧ s0 < 2147483648) ∧ ((s0 = 0 → Q (some (w_i 0)) I J b) ∧ (¬ s0 = 0 → w_C xs xl 188 [.ref 104] I J b (fun v Ic Jc bc => w_T xs xl 197 53 [some (.ref 104), some (w_i l1)] [] (w_pv v []) Ic Jc bc Q))))) : w_T xs xl 197 46 [some (.ref 104), some (w_i l1)] [] [w_i s0] I J b Q := by
  obtain ⟨h1, k⟩ := k
  refine w_zeq (t := 56) (q := 49) rfl rfl rfl h1 (fun c2 => ?_) (fun c2 => ?_)
  · replace k := k.1 c2
    refine w_iconst (q := 57) rfl rfl ?_
    refine w_iret rfl rfl k
  · replace k := k.2 c2
    refine w_aload_n (q := 50) rfl rfl rfl ?_
    refine w_callv (q := 53) rfl rfl rfl rfl rfl rfl ?_
    exact k
theorem b197_41 {xs : Nat → Int32} {xl : Nat} {I J : w_I} {b : Bool} {Q : Option Value → w_I → w_I → Bool → Prop} {u1 : Option Value} {s0 : Int} (k : ((s0 = 0 ∨ s0 = 1) ∧ Q (some (w_i s0)) I J b)) : w_T xs xl 197 41 [some (.ref 104), u1] [] [w_i s0] I J b Q := by
  obtain ⟨h1, k⟩ := k
  refine w_iret rfl (w_nz1 h1) k
theorem b197_53 {xs : Nat → Int32} {xl : Nat} {I J : w_I} {b : Bool} {Q : Option Value → w_I → w_I → Bool → Prop} {l1 s0 : Int} (k : ((-2147483648 ≤ s0 ∧ s0 < 2147483648) ∧ ((¬ s0 = 0 → w_C xs xl 190 [.ref 104, w_i (80 + 2 * l1), w_i (I 104 29)] I J b (fun v Ic Jc bc => w_T xs xl 197 72 [some (.ref 104), some (w_i l1)] [] (w_pv v []) Ic Jc bc Q)) ∧ (s0 = 0 → Q (some (w_i 0)) I J b)))) : w_T xs xl 197 53 [some (.ref 104), some (w_i l1)] [] [w_i s0] I J b Q := by
  obtain ⟨h1, k⟩ := k
  refine w_zne (t := 58) (q := 56) rfl rfl rfl h1 (fun c2 => ?_) (fun c2 => ?_)
  · replace k := k.1 c2
    refine w_aload_n (q := 59) rfl rfl rfl ?_
    refine w_bipush (q := 61) rfl rfl rfl ?_
    refine w_iconst (q := 62) rfl rfl ?_
    refine w_iload_n (q := 63) rfl rfl rfl ?_
    refine w_imul (q := 64) rfl rfl ?_
    refine w_iadd (q := 65) rfl rfl ?_
    refine w_aload_n (q := 66) rfl rfl rfl ?_
    refine w_gfi (q := 69) (k' := 29) (v := I 104 29) rfl rfl rfl rfl rfl rfl rfl ?_
    refine w_callv (q := 72) rfl rfl rfl rfl rfl rfl ?_
    exact k
  · replace k := k.2 c2
    refine w_iconst (q := 57) rfl rfl ?_
    refine w_iret rfl rfl k
theorem b197_72 {xs : Nat → Int32} {xl : Nat} {I J : w_I} {b : Bool} {Q : Option Value → w_I → w_I → Bool → Prop} {l1 : Int} (k : w_C xs xl 190 [.ref 104, w_i (80 + 2 * l1 + 1), w_i (I 114 1)] I J b (fun v Ic Jc bc => w_T xs xl 197 90 [some (.ref 104), some (w_i l1)] [] (w_pv v []) Ic Jc bc Q)) : w_T xs xl 197 72 [some (.ref 104), some (w_i l1)] [] [] I J b Q := by
  refine w_aload_n (q := 73) rfl rfl rfl ?_
  refine w_bipush (q := 75) rfl rfl rfl ?_
  refine w_iconst (q := 76) rfl rfl ?_
  refine w_iload_n (q := 77) rfl rfl rfl ?_
  refine w_imul (q := 78) rfl rfl ?_
  refine w_iadd (q := 79) rfl rfl ?_
  refine w_iconst (q := 80) rfl rfl ?_
  refine w_iadd (q := 81) rfl rfl ?_
  refine w_aload_n (q := 82) rfl rfl rfl ?_
  refine w_gfr (q := 85) rfl rfl rfl rfl (j := 114) rfl ?_
  refine w_iconst (q := 86) rfl rfl ?_
  refine w_iald (q := 87) (n := 4) (v := I 114 1) rfl rfl rfl rfl rfl rfl (by decide) ?_
  refine w_callv (q := 90) rfl rfl rfl rfl rfl rfl ?_
  exact k
theorem b197_90 {xs : Nat → Int32} {xl : Nat} {I J : w_I} {b : Bool} {Q : Option Value → w_I → w_I → Bool → Prop} {l1 : Int} (k : w_C xs xl 190 [.ref 104, w_i 4, w_i (l1 + 1)] I J b (fun v Ic Jc bc => w_T xs xl 197 98 [some (.ref 104), some (w_i l1)] [] (w_pv v []) Ic Jc bc Q)) : w_T xs xl 197 90 [some (.ref 104), some (w_i l1)] [] [] I J b Q := by
  refine w_aload_n (q := 91) rfl rfl rfl ?_
  refine w_iconst (q := 92) rfl rfl ?_
  refine w_iload_n (q := 93) rfl rfl rfl ?_
  refine w_iconst (q := 94) rfl rfl ?_
  refine w_iadd (q := 95) rfl rfl ?_
  refine w_callv (q := 98) rfl rfl rfl rfl rfl rfl ?_
  exact k
theorem b197_98 {xs : Nat → Int32} {xl : Nat} {I J : w_I} {b : Bool} {Q : Option Value → w_I → w_I → Bool → Prop} {u1 : Option Value} (k : Q (some (w_i 1)) I J b) : w_T xs xl 197 98 [some (.ref 104), u1] [] [] I J b Q := by
  refine w_iconst (q := 99) rfl rfl ?_
  refine w_iret rfl rfl k
theorem e198 {xs : Nat → Int32} {xl : Nat} {I J : w_I} {b : Bool} {Q : Option Value → w_I → w_I → Bool → Prop} (t : w_T xs xl 198 0 [some (.ref 104), none] [] [] I J b Q) : w_C xs xl 198 [.ref 104] I J b Q := w_en rfl t
theorem b198_0 {xs : Nat → Int32} {xl : Nat} {I J : w_I} {b : Bool} {Q : Option Value → w_I → w_I → Bool → Prop} (k : ((0 ≤ I 104 7 ∧ I 104 7 < 2001) ∧ ((-2147483648 ≤ I 106 (I 104 7) ∧ I 106 (I 104 7) < 2147483648) ∧ ((¬ I 106 (I 104 7) = 3 → w_C xs xl 175 [.ref 104, w_i 1] I J b (fun v Ic Jc bc => w_T xs xl 198 123 [some (.ref 104), some (w_i (-1))] [] (w_pv v []) Ic Jc bc Q)) ∧ (I 106 (I 104 7) = 3 → ((-2147483648 ≤ I 108 (I 104 7) ∧ I 108 (I 104 7) < 2147483648) ∧ ((¬ I 108 (I 104 7) = 0 → ((¬ I 108 (I 104 7) = 3 → ((¬ I 108 (I 104 7) = 4 → ((¬ I 108 (I 104 7) = 5 → ((¬ I 108 (I 104 7) = 9 → ((I 108 (I 104 7) < 30 → ((¬ I 108 (I 104 7) = 33 → w_C xs xl 175 [.ref 104, w_i 1] I J b (fun v Ic Jc bc => w_T xs xl 198 123 [some (.ref 104), some (w_i (I 108 (I 104 7)))] [] (w_pv v []) Ic Jc bc Q)) ∧ (I 108 (I 104 7) = 33 → w_C xs xl 197 [.ref 104] I J b (fun v Ic Jc bc => w_T xs xl 198 115 [some (.ref 104), some (w_i (I 108 (I 104 7)))] [] (w_pv v []) Ic Jc bc Q)))) ∧ (¬ I 108 (I 104 7) < 30 → ((32 < I 108 (I 104 7) → ((¬ I 108 (I 104 7) = 33 → w_C xs xl 175 [.ref 104, w_i 1] I J b (fun v Ic Jc bc => w_T xs xl 198 123 [some (.ref 104), some (w_i (I 108 (I 104 7)))] [] (w_pv v []) Ic Jc bc Q)) ∧ (I 108 (I 104 7) = 33 → w_C xs xl 197 [.ref 104] I J b (fun v Ic Jc bc => w_T xs xl 198 115 [some (.ref 104), some (w_i (I 108 (I 104 7)))] [] (w_pv v []) Ic Jc bc Q)))) ∧ (¬ 32 < I 108 (I 104 7) → w_C xs xl 196 [.ref 104, w_i (I 108 (I 104 7) - 29)] I J b (fun v Ic Jc bc => w_T xs xl 198 104 [some (.ref 104), some (w_i (I 108 (I 104 7)))] [] (w_pv v []) Ic Jc bc Q)))))) ∧ (I 108 (I 104 7) = 9 → w_C xs xl 196 [.ref 104, w_i 0] I J b (fun v Ic Jc bc => w_T xs xl 198 83 [some (.ref 104), some (w_i (I 108 (I 104 7)))] [] (w_pv v []) Ic Jc bc Q)))) ∧ (I 108 (I 104 7) = 5 → w_C xs xl 195 [.ref 104] I J b (fun v Ic Jc bc => w_T xs xl 198 71 [some (.ref 104), some (w_i (I 108 (I 104 7)))] [] (w_pv v []) Ic Jc bc Q)))) ∧ (I 108 (I 104 7) = 4 → w_C xs xl 194 [.ref 104, w_i 2, w_i 9] I J b (fun v Ic Jc bc => w_T xs xl 198 61 [some (.ref 104), some (w_i (I 108 (I 104 7)))] [] (w_pv v []) Ic Jc bc Q)))) ∧ (I 108 (I 104 7) = 3 → w_C xs xl 194 [.ref 104, w_i 1, w_i 20] I J b (fun v Ic Jc bc => w_T xs xl 198 48 [some (.ref 104), some (w_i (I 108 (I 104 7)))] [] (w_pv v []) Ic Jc bc Q)))) ∧ (I 108 (I 104 7) = 0 → w_C xs xl 193 [.ref 104] I J b (fun v Ic Jc bc => w_T xs xl 198 35 [some (.ref 104), some (w_i (I 108 (I 104 7)))] [] (w_pv v []) Ic Jc bc Q))))))))) : w_T xs xl 198 0 [some (.ref 104), none] [] [] I J b Q := by
  refine w_aload_n (q := 1) rfl rfl rfl ?_
  refine w_gfr (q := 4) rfl rfl rfl rfl (j := 106) rfl ?_
  refine w_aload_n (q := 5) rfl rfl rfl ?_
  refine w_gfi (q := 8) (k' := 7) (v := I 104 7) rfl rfl rfl rfl rfl rfl rfl ?_
  obtain ⟨h1, k⟩ := k
  refine w_iald (q := 9) (n := 2001) (v := I 106 (I 104 7)) rfl rfl rfl rfl rfl rfl h1 ?_
  refine w_iconst (q := 10) rfl rfl ?_
  obtain ⟨h2, k⟩ := k
  refine w_cne (t := 25) (q := 13) rfl rfl rfl h2 (by decide) (fun c3 => ?_) (fun c3 => ?_)
  · replace k := k.1 c3
    refine w_iconst (q := 26) rfl rfl ?_
    refine w_istore_n (q := 27) (L' := [some (.ref 104), some (w_i (-1))]) (M' := []) rfl rfl rfl rfl rfl ?_
    refine w_iload_n (q := 28) rfl rfl rfl ?_
    refine w_zne (t := 36) (q := 31) rfl rfl rfl (by decide) (fun _ => ?_) (fun w => absurd w (by decide))
    refine w_iload_n (q := 37) rfl rfl rfl ?_
    refine w_iconst (q := 38) rfl rfl ?_
    refine w_cne (t := 49) (q := 41) rfl rfl rfl (by decide) (by decide) (fun _ => ?_) (fun w => absurd w (by decide))
    refine w_iload_n (q := 50) rfl rfl rfl ?_
    refine w_iconst (q := 51) rfl rfl ?_
    refine w_cne (t := 62) (q := 54) rfl rfl rfl (by decide) (by decide) (fun _ => ?_) (fun w => absurd w (by decide))
    refine w_iload_n (q := 63) rfl rfl rfl ?_
    refine w_iconst (q := 64) rfl rfl ?_
    refine w_cne (t := 72) (q := 67) rfl rfl rfl (by decide) (by decide) (fun _ => ?_) (fun w => absurd w (by decide))
    refine w_iload_n (q := 73) rfl rfl rfl ?_
    refine w_bipush (q := 75) rfl rfl rfl ?_
    refine w_cne (t := 84) (q := 78) rfl rfl rfl (by decide) (by decide) (fun _ => ?_) (fun w => absurd w (by decide))
    refine w_iload_n (q := 85) rfl rfl rfl ?_
    refine w_bipush (q := 87) rfl rfl rfl ?_
    refine w_clt (t := 105) (q := 90) rfl rfl rfl (by decide) (by decide) (fun _ => ?_) (fun w => absurd w (by decide))
    refine w_iload_n (q := 106) rfl rfl rfl ?_
    refine w_bipush (q := 108) rfl rfl rfl ?_
    refine w_cne (t := 118) (q := 111) rfl rfl rfl (by decide) (by decide) (fun _ => ?_) (fun w => absurd w (by decide))
    refine w_aload_n (q := 119) rfl rfl rfl ?_
    refine w_iconst (q := 120) rfl rfl ?_
    refine w_callv (q := 123) rfl rfl rfl rfl rfl rfl ?_
    exact k
  · replace k := k.2 c3
    refine w_aload_n (q := 14) rfl rfl rfl ?_
    refine w_gfr (q := 17) rfl rfl rfl rfl (j := 108) rfl ?_
    refine w_aload_n (q := 18) rfl rfl rfl ?_
    refine w_gfi (q := 21) (k' := 7) (v := I 104 7) rfl rfl rfl rfl rfl rfl rfl ?_
    refine w_iald (q := 22) (n := 2001) (v := I 108 (I 104 7)) rfl rfl rfl rfl rfl rfl h1 ?_
    refine w_goto (t := 26) rfl rfl ?_
    refine w_istore_n (q := 27) (L' := [some (.ref 104), some (w_i (I 108 (I 104 7)))]) (M' := []) rfl rfl rfl rfl rfl ?_
    refine w_iload_n (q := 28) rfl rfl rfl ?_
    obtain ⟨h4, k⟩ := k
    refine w_zne (t := 36) (q := 31) rfl rfl rfl h4 (fun c5 => ?_) (fun c5 => ?_)
    · replace k := k.1 c5
      refine w_iload_n (q := 37) rfl rfl rfl ?_
      refine w_iconst (q := 38) rfl rfl ?_
      refine w_cne (t := 49) (q := 41) rfl rfl rfl h4 (by decide) (fun c6 => ?_) (fun c6 => ?_)
      · replace k := k.1 c6
        refine w_iload_n (q := 50) rfl rfl rfl ?_
        refine w_iconst (q := 51) rfl rfl ?_
        refine w_cne (t := 62) (q := 54) rfl rfl rfl h4 (by decide) (fun c7 => ?_) (fun c7 => ?_)
        · replace k := k.1 c7
          refine w_iload_n (q := 63) rfl rfl rfl ?_
          refine w_iconst (q := 64) rfl rfl ?_
          refine w_cne (t := 72) (q := 67) rfl rfl rfl h4 (by decide) (fun c8 => ?_) (fun c8 => ?_)
          · replace k := k.1 c8
            refine w_iload_n (q := 73) rfl rfl rfl ?_
            refine w_bipush (q := 75) rfl rfl rfl ?_
            refine w_cne (t := 84) (q := 78) rfl rfl rfl h4 (by decide) (fun c9 => ?_) (fun c9 => ?_)
            · replace k := k.1 c9
              refine w_iload_n (q := 85) rfl rfl rfl ?_
              refine w_bipush (q := 87) rfl rfl rfl ?_
              refine w_clt (t := 105) (q := 90) rfl rfl rfl h4 (by decide) (fun c10 => ?_) (fun c10 => ?_)
              · replace k := k.1 c10
                refine w_iload_n (q := 106) rfl rfl rfl ?_
                refine w_bipush (q := 108) rfl rfl rfl ?_
                refine w_cne (t := 118) (q := 111) rfl rfl rfl h4 (by decide) (fun c11 => ?_) (fun c11 => ?_)
                · replace k := k.1 c11
                  refine w_aload_n (q := 119) rfl rfl rfl ?_
                  refine w_iconst (q := 120) rfl rfl ?_
                  refine w_callv (q := 123) rfl rfl rfl rfl rfl rfl ?_
                  exact k
                · replace k := k.2 c11
                  refine w_aload_n (q := 112) rfl rfl rfl ?_
                  refine w_callv (q := 115) rfl rfl rfl rfl rfl rfl ?_
                  exact k
              · replace k := k.2 c10
                refine w_iload_n (q := 91) rfl rfl rfl ?_
                refine w_bipush (q := 93) rfl rfl rfl ?_
                refine w_cgt (t := 105) (q := 96) rfl rfl rfl h4 (by decide) (fun c12 => ?_) (fun c12 => ?_)
                · replace k := k.1 c12
                  refine w_iload_n (q := 106) rfl rfl rfl ?_
                  refine w_bipush (q := 108) rfl rfl rfl ?_
                  refine w_cne (t := 118) (q := 111) rfl rfl rfl h4 (by decide) (fun c13 => ?_) (fun c13 => ?_)
                  · replace k := k.1 c13
                    refine w_aload_n (q := 119) rfl rfl rfl ?_
                    refine w_iconst (q := 120) rfl rfl ?_
                    refine w_callv (q := 123) rfl rfl rfl rfl rfl rfl ?_
                    exact k
                  · replace k := k.2 c13
                    refine w_aload_n (q := 112) rfl rfl rfl ?_
                    refine w_callv (q := 115) rfl rfl rfl rfl rfl rfl ?_
                    exact k
                · replace k := k.2 c12
                  refine w_aload_n (q := 97) rfl rfl rfl ?_
                  refine w_iload_n (q := 98) rfl rfl rfl ?_
                  refine w_bipush (q := 100) rfl rfl rfl ?_
                  refine w_isub (q := 101) rfl rfl ?_
                  refine w_callv (q := 104) rfl rfl rfl rfl rfl rfl ?_
                  exact k
            · replace k := k.2 c9
              refine w_aload_n (q := 79) rfl rfl rfl ?_
              refine w_iconst (q := 80) rfl rfl ?_
              refine w_callv (q := 83) rfl rfl rfl rfl rfl rfl ?_
              exact k
          · replace k := k.2 c8
            refine w_aload_n (q := 68) rfl rfl rfl ?_
            refine w_callv (q := 71) rfl rfl rfl rfl rfl rfl ?_
            exact k
        · replace k := k.2 c7
          refine w_aload_n (q := 55) rfl rfl rfl ?_
          refine w_iconst (q := 56) rfl rfl ?_
          refine w_bipush (q := 58) rfl rfl rfl ?_
          refine w_callv (q := 61) rfl rfl rfl rfl rfl rfl ?_
          exact k
      · replace k := k.2 c6
        refine w_aload_n (q := 42) rfl rfl rfl ?_
        refine w_iconst (q := 43) rfl rfl ?_
        refine w_bipush (q := 45) rfl rfl rfl ?_
        refine w_callv (q := 48) rfl rfl rfl rfl rfl rfl ?_
        exact k
    · replace k := k.2 c5
      refine w_aload_n (q := 32) rfl rfl rfl ?_
      refine w_callv (q := 35) rfl rfl rfl rfl rfl rfl ?_
      exact k
theorem b198_123 {xs : Nat → Int32} {xl : Nat} {I J : w_I} {b : Bool} {Q : Option Value → w_I → w_I → Bool → Prop} {u1 : Option Value} {s0 : Int} (k : ((s0 = 0 ∨ s0 = 1) ∧ Q (some (w_i s0)) I J b)) : w_T xs xl 198 123 [some (.ref 104), u1] [] [w_i s0] I J b Q := by
  obtain ⟨h1, k⟩ := k
  refine w_iret rfl (w_nz1 h1) k
theorem b198_115 {xs : Nat → Int32} {xl : Nat} {I J : w_I} {b : Bool} {Q : Option Value → w_I → w_I → Bool → Prop} {u1 : Option Value} {s0 : Int} (k : ((s0 = 0 ∨ s0 = 1) ∧ Q (some (w_i s0)) I J b)) : w_T xs xl 198 115 [some (.ref 104), u1] [] [w_i s0] I J b Q := by
  refine w_goto (t := 123) rfl rfl ?_
  obtain ⟨h1, k⟩ := k
  refine w_iret rfl (w_nz1 h1) k
theorem b198_104 {xs : Nat → Int32} {xl : Nat} {I J : w_I} {b : Bool} {Q : Option Value → w_I → w_I → Bool → Prop} {u1 : Option Value} {s0 : Int} (k : ((s0 = 0 ∨ s0 = 1) ∧ Q (some (w_i s0)) I J b)) : w_T xs xl 198 104 [some (.ref 104), u1] [] [w_i s0] I J b Q := by
  obtain ⟨h1, k⟩ := k
  refine w_iret rfl (w_nz1 h1) k
theorem b198_83 {xs : Nat → Int32} {xl : Nat} {I J : w_I} {b : Bool} {Q : Option Value → w_I → w_I → Bool → Prop} {u1 : Option Value} {s0 : Int} (k : ((s0 = 0 ∨ s0 = 1) ∧ Q (some (w_i s0)) I J b)) : w_T xs xl 198 83 [some (.ref 104), u1] [] [w_i s0] I J b Q := by
  obtain ⟨h1, k⟩ := k
  refine w_iret rfl (w_nz1 h1) k
theorem b198_71 {xs : Nat → Int32} {xl : Nat} {I J : w_I} {b : Bool} {Q : Option Value → w_I → w_I → Bool → Prop} {u1 : Option Value} {s0 : Int} (k : ((s0 = 0 ∨ s0 = 1) ∧ Q (some (w_i s0)) I J b)) : w_T xs xl 198 71 [some (.ref 104), u1] [] [w_i s0] I J b Q := by
  obtain ⟨h1, k⟩ := k
  refine w_iret rfl (w_nz1 h1) k
theorem b198_61 {xs : Nat → Int32} {xl : Nat} {I J : w_I} {b : Bool} {Q : Option Value → w_I → w_I → Bool → Prop} {u1 : Option Value} {s0 : Int} (k : ((s0 = 0 ∨ s0 = 1) ∧ Q (some (w_i s0)) I J b)) : w_T xs xl 198 61 [some (.ref 104), u1] [] [w_i s0] I J b Q := by
  obtain ⟨h1, k⟩ := k
  refine w_iret rfl (w_nz1 h1) k
theorem b198_48 {xs : Nat → Int32} {xl : Nat} {I J : w_I} {b : Bool} {Q : Option Value → w_I → w_I → Bool → Prop} {u1 : Option Value} {s0 : Int} (k : ((s0 = 0 ∨ s0 = 1) ∧ Q (some (w_i s0)) I J b)) : w_T xs xl 198 48 [some (.ref 104), u1] [] [w_i s0] I J b Q := by
  obtain ⟨h1, k⟩ := k
  refine w_iret rfl (w_nz1 h1) k
theorem b198_35 {xs : Nat → Int32} {xl : Nat} {I J : w_I} {b : Bool} {Q : Option Value → w_I → w_I → Bool → Prop} {u1 : Option Value} {s0 : Int} (k : ((s0 = 0 ∨ s0 = 1) ∧ Q (some (w_i s0)) I J b)) : w_T xs xl 198 35 [some (.ref 104), u1] [] [w_i s0] I J b Q := by
  obtain ⟨h1, k⟩ := k
  refine w_iret rfl (w_nz1 h1) k
theorem e199 {xs : Nat → Int32} {xl : Nat} {I J : w_I} {b : Bool} {Q : Option Value → w_I → w_I → Bool → Prop} (t : w_T xs xl 199 0 [some (.ref 104)] [] [] I J b Q) : w_C xs xl 199 [.ref 104] I J b Q := w_en rfl t
theorem b199_0 {xs : Nat → Int32} {xl : Nat} {I J : w_I} {b : Bool} {Q : Option Value → w_I → w_I → Bool → Prop} (k : w_T xs xl 199 5 [some (.ref 104)] [] [] (w_U I 104 7 0) J b Q) : w_T xs xl 199 0 [some (.ref 104)] [] [] I J b Q := by
  refine w_aload_n (q := 1) rfl rfl rfl ?_
  refine w_iconst (q := 2) rfl rfl ?_
  refine w_pfi (q := 5) (k' := 7) rfl rfl rfl rfl ?_
  exact k
theorem b199_5 {xs : Nat → Int32} {xl : Nat} {I J : w_I} {b : Bool} {Q : Option Value → w_I → w_I → Bool → Prop} (k : ((0 ≤ I 104 7 ∧ I 104 7 < 2001) ∧ ((-2147483648 ≤ I 106 (I 104 7) ∧ I 106 (I 104 7) < 2147483648) ∧ ((I 106 (I 104 7) = 4 → Q (some (w_i 1)) I J b) ∧ (¬ I 106 (I 104 7) = 4 → w_C xs xl 198 [.ref 104] I J b (fun v Ic Jc bc => w_T xs xl 199 22 [some (.ref 104)] [] (w_pv v []) Ic Jc bc Q)))))) : w_T xs xl 199 5 [some (.ref 104)] [] [] I J b Q := by
  refine w_aload_n (q := 6) rfl rfl rfl ?_
  refine w_gfr (q := 9) rfl rfl rfl rfl (j := 106) rfl ?_
  refine w_aload_n (q := 10) rfl rfl rfl ?_
  refine w_gfi (q := 13) (k' := 7) (v := I 104 7) rfl rfl rfl rfl rfl rfl rfl ?_
  obtain ⟨h1, k⟩ := k
  refine w_iald (q := 14) (n := 2001) (v := I 106 (I 104 7)) rfl rfl rfl rfl rfl rfl h1 ?_
  refine w_iconst (q := 15) rfl rfl ?_
  obtain ⟨h2, k⟩ := k
  refine w_ceq (t := 51) (q := 18) rfl rfl rfl h2 (by decide) (fun c3 => ?_) (fun c3 => ?_)
  · replace k := k.1 c3
    refine w_iconst (q := 52) rfl rfl ?_
    refine w_iret rfl rfl k
  · replace k := k.2 c3
    refine w_aload_n (q := 19) rfl rfl rfl ?_
    refine w_callv (q := 22) rfl rfl rfl rfl rfl rfl ?_
    exact k
theorem b199_22 {xs : Nat → Int32} {xl : Nat} {I J : w_I} {b : Bool} {Q : Option Value → w_I → w_I → Bool → Prop} {s0 : Int} (k : ((-2147483648 ≤ s0 ∧ s0 < 2147483648) ∧ ((¬ s0 = 0 → w_C xs xl 178 [.ref 104, w_i 59] I J b (fun v Ic Jc bc => w_T xs xl 199 33 [some (.ref 104)] [] (w_pv v []) Ic Jc bc Q)) ∧ (s0 = 0 → Q (some (w_i 0)) I J b)))) : w_T xs xl 199 22 [some (.ref 104)] [] [w_i s0] I J b Q := by
  obtain ⟨h1, k⟩ := k
  refine w_zne (t := 27) (q := 25) rfl rfl rfl h1 (fun c2 => ?_) (fun c2 => ?_)
  · replace k := k.1 c2
    refine w_aload_n (q := 28) rfl rfl rfl ?_
    refine w_bipush (q := 30) rfl rfl rfl ?_
    refine w_callv (q := 33) rfl rfl rfl rfl rfl rfl ?_
    exact k
  · replace k := k.2 c2
    refine w_iconst (q := 26) rfl rfl ?_
    refine w_iret rfl rfl k
theorem b199_33 {xs : Nat → Int32} {xl : Nat} {I J : w_I} {b : Bool} {Q : Option Value → w_I → w_I → Bool → Prop} {s0 : Int} (k : ((-2147483648 ≤ s0 ∧ s0 < 2147483648) ∧ ((¬ s0 = 0 → w_C xs xl 177 [.ref 104] I J b (fun v Ic Jc bc => w_T xs xl 199 46 [some (.ref 104)] [] (w_pv v []) Ic Jc bc Q)) ∧ (s0 = 0 → w_C xs xl 175 [.ref 104, w_i 1] I J b (fun v Ic Jc bc => w_T xs xl 199 41 [some (.ref 104)] [] (w_pv v []) Ic Jc bc Q))))) : w_T xs xl 199 33 [some (.ref 104)] [] [w_i s0] I J b Q := by
  obtain ⟨h1, k⟩ := k
  refine w_zne (t := 42) (q := 36) rfl rfl rfl h1 (fun c2 => ?_) (fun c2 => ?_)
  · replace k := k.1 c2
    refine w_aload_n (q := 43) rfl rfl rfl ?_
    refine w_callv (q := 46) rfl rfl rfl rfl rfl rfl ?_
    exact k
  · replace k := k.2 c2
    refine w_aload_n (q := 37) rfl rfl rfl ?_
    refine w_iconst (q := 38) rfl rfl ?_
    refine w_callv (q := 41) rfl rfl rfl rfl rfl rfl ?_
    exact k
theorem b199_46 {xs : Nat → Int32} {xl : Nat} {I J : w_I} {b : Bool} {Q : Option Value → w_I → w_I → Bool → Prop} {s0 : Int} (k : ((-2147483648 ≤ s0 ∧ s0 < 2147483648) ∧ ((¬ s0 = 0 → w_T xs xl 199 5 [some (.ref 104)] [] [] I J b Q) ∧ (s0 = 0 → Q (some (w_i 0)) I J b)))) : w_T xs xl 199 46 [some (.ref 104)] [] [w_i s0] I J b Q := by
  obtain ⟨h1, k⟩ := k
  refine w_zne (t := 5) (q := 49) rfl rfl rfl h1 (fun c2 => ?_) (fun c2 => ?_)
  · replace k := k.1 c2
    exact k
  · replace k := k.2 c2
    refine w_iconst (q := 50) rfl rfl ?_
    refine w_iret rfl rfl k
theorem b199_41 {xs : Nat → Int32} {xl : Nat} {I J : w_I} {b : Bool} {Q : Option Value → w_I → w_I → Bool → Prop} {s0 : Int} (k : ((s0 = 0 ∨ s0 = 1) ∧ Q (some (w_i s0)) I J b)) : w_T xs xl 199 41 [some (.ref 104)] [] [w_i s0] I J b Q := by
  obtain ⟨h1, k⟩ := k
  refine w_iret rfl (w_nz1 h1) k
theorem e200 {xs : Nat → Int32} {xl : Nat} {I J : w_I} {b : Bool} {Q : Option Value → w_I → w_I → Bool → Prop} (t : w_T xs xl 200 0 [some (.ref 104)] [] [] I J b Q) : w_C xs xl 200 [.ref 104] I J b Q := w_en rfl t
theorem b200_0 {xs : Nat → Int32} {xl : Nat} {I J : w_I} {b : Bool} {Q : Option Value → w_I → w_I → Bool → Prop} (k : w_C xs xl 174 [.ref 104] I J b (fun v Ic Jc bc => w_T xs xl 200 4 [some (.ref 104)] [] (w_pv v []) Ic Jc bc Q)) : w_T xs xl 200 0 [some (.ref 104)] [] [] I J b Q := by
  refine w_aload_n (q := 1) rfl rfl rfl ?_
  refine w_callv (q := 4) rfl rfl rfl rfl rfl rfl ?_
  exact k
theorem b200_4 {xs : Nat → Int32} {xl : Nat} {I J : w_I} {b : Bool} {Q : Option Value → w_I → w_I → Bool → Prop} (k : w_C xs xl 191 [.ref 104, w_i 1] (w_U (w_U (w_U I 104 8 0) 104 9 (-1)) 104 10 0) J b (fun v Ic Jc bc => w_T xs xl 200 24 [some (.ref 104)] [] (w_pv v []) Ic Jc bc Q)) : w_T xs xl 200 4 [some (.ref 104)] [] [] I J b Q := by
  refine w_aload_n (q := 5) rfl rfl rfl ?_
  refine w_iconst (q := 6) rfl rfl ?_
  refine w_pfi (q := 9) (k' := 8) rfl rfl rfl rfl ?_
  refine w_aload_n (q := 10) rfl rfl rfl ?_
  refine w_iconst (q := 11) rfl rfl ?_
  refine w_pfi (q := 14) (k' := 9) rfl rfl rfl rfl ?_
  refine w_aload_n (q := 15) rfl rfl rfl ?_
  refine w_iconst (q := 16) rfl rfl ?_
  refine w_pfi (q := 19) (k' := 10) rfl rfl rfl rfl ?_
  refine w_aload_n (q := 20) rfl rfl rfl ?_
  refine w_iconst (q := 21) rfl rfl ?_
  refine w_callv (q := 24) rfl rfl rfl rfl rfl rfl ?_
  exact k
theorem b200_24 {xs : Nat → Int32} {xl : Nat} {I J : w_I} {b : Bool} {Q : Option Value → w_I → w_I → Bool → Prop} (k : w_C xs xl 199 [.ref 104] I J b (fun v Ic Jc bc => w_T xs xl 200 28 [some (.ref 104)] [] (w_pv v []) Ic Jc bc Q)) : w_T xs xl 200 24 [some (.ref 104)] [] [] I J b Q := by
  refine w_aload_n (q := 25) rfl rfl rfl ?_
  refine w_callv (q := 28) rfl rfl rfl rfl rfl rfl ?_
  exact k
theorem b200_28 {xs : Nat → Int32} {xl : Nat} {I J : w_I} {b : Bool} {Q : Option Value → w_I → w_I → Bool → Prop} {s0 : Int} (k : ((-2147483648 ≤ s0 ∧ s0 < 2147483648) ∧ ((s0 = 0 → ((-2147483648 ≤ I 104 8 ∧ I 104 8 < 2147483648) ∧ ((I 104 8 = 0 → w_C xs xl 192 [.ref 104, w_i 1, w_i 0] (w_U I 104 0 0) J b (fun v Ic Jc bc => w_T xs xl 200 77 [some (.ref 104)] [] (w_pv v []) Ic Jc bc Q)) ∧ (¬ I 104 8 = 0 → Q (some (w_i (I 104 8))) (w_U I 104 0 0) J b)))) ∧ (¬ s0 = 0 → ((-2147483648 ≤ I 104 10 ∧ I 104 10 < 2147483648) ∧ ((I 104 10 = 0 → ((-2147483648 ≤ I 104 8 ∧ I 104 8 < 2147483648) ∧ ((I 104 8 = 0 → w_C xs xl 192 [.ref 104, w_i 1, w_i 0] (w_U I 104 0 0) J b (fun v Ic Jc bc => w_T xs xl 200 77 [some (.ref 104)] [] (w_pv v []) Ic Jc bc Q)) ∧ (¬ I 104 8 = 0 → Q (some (w_i (I 104 8))) (w_U I 104 0 0) J b)))) ∧ (¬ I 104 10 = 0 → ((I 104 10 = 0 → w_C xs xl 192 [.ref 104, w_i 1, w_i 0] (w_U (w_U (w_U I 104 8 (I 104 10)) 104 9 (I 104 11)) 104 0 0) J b (fun v Ic Jc bc => w_T xs xl 200 77 [some (.ref 104)] [] (w_pv v []) Ic Jc bc Q)) ∧ (¬ I 104 10 = 0 → Q (some (w_i (I 104 10))) (w_U (w_U (w_U I 104 8 (I 104 10)) 104 9 (I 104 11)) 104 0 0) J b))))))))) : w_T xs xl 200 28 [some (.ref 104)] [] [w_i s0] I J b Q := by
  obtain ⟨h1, k⟩ := k
  refine w_zeq (t := 54) (q := 31) rfl rfl rfl h1 (fun c2 => ?_) (fun c2 => ?_)
  · replace k := k.1 c2
    refine w_aload_n (q := 55) rfl rfl rfl ?_
    refine w_iconst (q := 56) rfl rfl ?_
    refine w_pfi (q := 59) (k' := 0) rfl rfl rfl rfl ?_
    refine w_aload_n (q := 60) rfl rfl rfl ?_
    refine w_gfi (q := 63) (k' := 8) (v := I 104 8) rfl rfl rfl rfl rfl rfl rfl ?_
    obtain ⟨h3, k⟩ := k
    refine w_zeq (t := 71) (q := 66) rfl rfl rfl h3 (fun c4 => ?_) (fun c4 => ?_)
    · replace k := k.1 c4
      refine w_aload_n (q := 72) rfl rfl rfl ?_
      refine w_iconst (q := 73) rfl rfl ?_
      refine w_iconst (q := 74) rfl rfl ?_
      refine w_callv (q := 77) rfl rfl rfl rfl rfl rfl ?_
      exact k
    · replace k := k.2 c4
      refine w_aload_n (q := 67) rfl rfl rfl ?_
      refine w_gfi (q := 70) (k' := 8) (v := I 104 8) rfl rfl rfl rfl rfl rfl rfl ?_
      exact w_iret rfl rfl k
  · replace k := k.2 c2
    refine w_aload_n (q := 32) rfl rfl rfl ?_
    refine w_gfi (q := 35) (k' := 10) (v := I 104 10) rfl rfl rfl rfl rfl rfl rfl ?_
    obtain ⟨h5, k⟩ := k
    refine w_zeq (t := 54) (q := 38) rfl rfl rfl h5 (fun c6 => ?_) (fun c6 => ?_)
    · replace k := k.1 c6
      refine w_aload_n (q := 55) rfl rfl rfl ?_
      refine w_iconst (q := 56) rfl rfl ?_
      refine w_pfi (q := 59) (k' := 0) rfl rfl rfl rfl ?_
      refine w_aload_n (q := 60) rfl rfl rfl ?_
      refine w_gfi (q := 63) (k' := 8) (v := I 104 8) rfl rfl rfl rfl rfl rfl rfl ?_
      obtain ⟨h7, k⟩ := k
      refine w_zeq (t := 71) (q := 66) rfl rfl rfl h7 (fun c8 => ?_) (fun c8 => ?_)
      · replace k := k.1 c8
        refine w_aload_n (q := 72) rfl rfl rfl ?_
        refine w_iconst (q := 73) rfl rfl ?_
        refine w_iconst (q := 74) rfl rfl ?_
        refine w_callv (q := 77) rfl rfl rfl rfl rfl rfl ?_
        exact k
      · replace k := k.2 c8
        refine w_aload_n (q := 67) rfl rfl rfl ?_
        refine w_gfi (q := 70) (k' := 8) (v := I 104 8) rfl rfl rfl rfl rfl rfl rfl ?_
        exact w_iret rfl rfl k
    · replace k := k.2 c6
      refine w_aload_n (q := 39) rfl rfl rfl ?_
      refine w_aload_n (q := 40) rfl rfl rfl ?_
      refine w_gfi (q := 43) (k' := 10) (v := I 104 10) rfl rfl rfl rfl rfl rfl rfl ?_
      refine w_pfi (q := 46) (k' := 8) rfl rfl rfl rfl ?_
      refine w_aload_n (q := 47) rfl rfl rfl ?_
      refine w_aload_n (q := 48) rfl rfl rfl ?_
      refine w_gfi (q := 51) (k' := 11) (v := I 104 11) rfl rfl rfl rfl rfl rfl rfl ?_
      refine w_pfi (q := 54) (k' := 9) rfl rfl rfl rfl ?_
      refine w_aload_n (q := 55) rfl rfl rfl ?_
      refine w_iconst (q := 56) rfl rfl ?_
      refine w_pfi (q := 59) (k' := 0) rfl rfl rfl rfl ?_
      refine w_aload_n (q := 60) rfl rfl rfl ?_
      refine w_gfi (q := 63) (k' := 8) (v := I 104 10) rfl rfl rfl rfl rfl rfl rfl ?_
      refine w_zeq (t := 71) (q := 66) rfl rfl rfl h5 (fun c9 => ?_) (fun c9 => ?_)
      · replace k := k.1 c9
        refine w_aload_n (q := 72) rfl rfl rfl ?_
        refine w_iconst (q := 73) rfl rfl ?_
        refine w_iconst (q := 74) rfl rfl ?_
        refine w_callv (q := 77) rfl rfl rfl rfl rfl rfl ?_
        exact k
      · replace k := k.2 c9
        refine w_aload_n (q := 67) rfl rfl rfl ?_
        refine w_gfi (q := 70) (k' := 8) (v := I 104 10) rfl rfl rfl rfl rfl rfl rfl ?_
        exact w_iret rfl rfl k
theorem b200_77 {xs : Nat → Int32} {xl : Nat} {I J : w_I} {b : Bool} {Q : Option Value → w_I → w_I → Bool → Prop} (k : Q (some (w_i 0)) (w_U (w_U I 121 2 0) 121 3 0) J b) : w_T xs xl 200 77 [some (.ref 104)] [] [] I J b Q := by
  refine w_aload_n (q := 78) rfl rfl rfl ?_
  refine w_gfr (q := 81) rfl rfl rfl rfl (j := 121) rfl ?_
  refine w_iconst (q := 82) rfl rfl ?_
  refine w_iconst (q := 83) rfl rfl ?_
  refine w_bast2 (q := 84) (n := 4) rfl rfl rfl rfl rfl (by decide) (by decide) ?_
  refine w_aload_n (q := 85) rfl rfl rfl ?_
  refine w_gfr (q := 88) rfl rfl rfl rfl (j := 121) rfl ?_
  refine w_iconst (q := 89) rfl rfl ?_
  refine w_iconst (q := 90) rfl rfl ?_
  refine w_bast2 (q := 91) (n := 4) rfl rfl rfl rfl rfl (by decide) (by decide) ?_
  refine w_iconst (q := 92) rfl rfl ?_
  exact w_iret rfl rfl k
theorem e201 {xs : Nat → Int32} {xl : Nat} {I J : w_I} {b : Bool} {Q : Option Value → w_I → w_I → Bool → Prop} (t : w_T xs xl 201 0 [some (.ref 104)] [] [] I J b Q) : w_C xs xl 201 [.ref 104] I J b Q := w_en rfl t
theorem b201_0 {xs : Nat → Int32} {xl : Nat} {I J : w_I} {b : Bool} {Q : Option Value → w_I → w_I → Bool → Prop} (k : Q (some (w_i (I 104 9))) I J b) : w_T xs xl 201 0 [some (.ref 104)] [] [] I J b Q := by
  refine w_aload_n (q := 1) rfl rfl rfl ?_
  refine w_gfi (q := 4) (k' := 9) (v := I 104 9) rfl rfl rfl rfl rfl rfl rfl ?_
  exact w_iret rfl rfl k
theorem e202 {xs : Nat → Int32} {xl : Nat} {I J : w_I} {b : Bool} {Q : Option Value → w_I → w_I → Bool → Prop} {a1 : Int} (t : w_T xs xl 202 0 [some (.ref 104), some (w_i a1)] [] [] I J b Q) : w_C xs xl 202 [.ref 104, w_i a1] I J b Q := w_en rfl t
theorem b202_0 {xs : Nat → Int32} {xl : Nat} {I J : w_I} {b : Bool} {Q : Option Value → w_I → w_I → Bool → Prop} {a1 : Int} (k : ((-2147483648 ≤ a1 ∧ a1 < 2147483648) ∧ ((a1 < 0 → Q (some (w_i 0)) I J b) ∧ (¬ a1 < 0 → ((a1 ≤ 1 → w_C xs xl 192 [.ref 104, w_i 0, w_i (2 + a1)] I J b (fun v Ic Jc bc => w_T xs xl 202 19 [some (.ref 104), some (w_i a1)] [] (w_pv v []) Ic Jc bc Q)) ∧ (¬ a1 ≤ 1 → Q (some (w_i 0)) I J b)))))) : w_T xs xl 202 0 [some (.ref 104), some (w_i a1)] [] [] I J b Q := by
  refine w_iload_n (q := 1) rfl rfl rfl ?_
  obtain ⟨h1, k⟩ := k
  refine w_zlt (t := 9) (q := 4) rfl rfl rfl h1 (fun c2 => ?_) (fun c2 => ?_)
  · replace k := k.1 c2
    refine w_iconst (q := 10) rfl rfl ?_
    refine w_iret rfl rfl k
  · replace k := k.2 c2
    refine w_iload_n (q := 5) rfl rfl rfl ?_
    refine w_iconst (q := 6) rfl rfl ?_
    refine w_cle (t := 11) (q := 9) rfl rfl rfl h1 (by decide) (fun c3 => ?_) (fun c3 => ?_)
    · replace k := k.1 c3
      refine w_aload_n (q := 12) rfl rfl rfl ?_
      refine w_iconst (q := 13) rfl rfl ?_
      refine w_iconst (q := 14) rfl rfl ?_
      refine w_iload_n (q := 15) rfl rfl rfl ?_
      refine w_iadd (q := 16) rfl rfl ?_
      refine w_callv (q := 19) rfl rfl rfl rfl rfl rfl ?_
      exact k
    · replace k := k.2 c3
      refine w_iconst (q := 10) rfl rfl ?_
      refine w_iret rfl rfl k
theorem b202_19 {xs : Nat → Int32} {xl : Nat} {I J : w_I} {b : Bool} {Q : Option Value → w_I → w_I → Bool → Prop} {l1 : Int} (k : ((0 ≤ 2 + l1 ∧ 2 + l1 < 4) ∧ Q (some (w_i 1)) (w_U I 121 (2 + l1) 1) J b)) : w_T xs xl 202 19 [some (.ref 104), some (w_i l1)] [] [] I J b Q := by
  refine w_aload_n (q := 20) rfl rfl rfl ?_
  refine w_gfr (q := 23) rfl rfl rfl rfl (j := 121) rfl ?_
  refine w_iconst (q := 24) rfl rfl ?_
  refine w_iload_n (q := 25) rfl rfl rfl ?_
  refine w_iadd (q := 26) rfl rfl ?_
  refine w_iconst (q := 27) rfl rfl ?_
  obtain ⟨h1, k⟩ := k
  refine w_bast2 (q := 28) (n := 4) rfl rfl rfl rfl rfl (by decide) h1 ?_
  refine w_iconst (q := 29) rfl rfl ?_
  refine w_iret rfl rfl k
theorem e203 {xs : Nat → Int32} {xl : Nat} {I J : w_I} {b : Bool} {Q : Option Value → w_I → w_I → Bool → Prop} {a1 : Int} (t : w_T xs xl 203 0 [some (.ref 104), some (w_i a1)] [] [] I J b Q) : w_C xs xl 203 [.ref 104, w_i a1] I J b Q := w_en rfl t
theorem b203_0 {xs : Nat → Int32} {xl : Nat} {I J : w_I} {b : Bool} {Q : Option Value → w_I → w_I → Bool → Prop} {a1 : Int} (k : ((-2147483648 ≤ a1 ∧ a1 < 2147483648) ∧ ((a1 < 0 → Q (some (w_i 0)) I J b) ∧ (¬ a1 < 0 → ((1 < a1 → Q (some (w_i 0)) I J b) ∧ (¬ 1 < a1 → ((0 ≤ 2 + a1 ∧ 2 + a1 < 4) ∧ ((-2147483648 ≤ I 121 (2 + a1) ∧ I 121 (2 + a1) < 2147483648) ∧ ((¬ I 121 (2 + a1) = 0 → w_C xs xl 192 [.ref 104, w_i (2 + a1), w_i 0] I J b (fun v Ic Jc bc => w_T xs xl 203 30 [some (.ref 104), some (w_i a1)] [] (w_pv v []) Ic Jc bc Q)) ∧ (I 121 (2 + a1) = 0 → Q (some (w_i 0)) I J b)))))))))) : w_T xs xl 203 0 [some (.ref 104), some (w_i a1)] [] [] I J b Q := by
  refine w_iload_n (q := 1) rfl rfl rfl ?_
  obtain ⟨h1, k⟩ := k
  refine w_zlt (t := 20) (q := 4) rfl rfl rfl h1 (fun c2 => ?_) (fun c2 => ?_)
  · replace k := k.1 c2
    refine w_iconst (q := 21) rfl rfl ?_
    refine w_iret rfl rfl k
  · replace k := k.2 c2
    refine w_iload_n (q := 5) rfl rfl rfl ?_
    refine w_iconst (q := 6) rfl rfl ?_
    refine w_cgt (t := 20) (q := 9) rfl rfl rfl h1 (by decide) (fun c3 => ?_) (fun c3 => ?_)
    · replace k := k.1 c3
      refine w_iconst (q := 21) rfl rfl ?_
      refine w_iret rfl rfl k
    · replace k := k.2 c3
      refine w_aload_n (q := 10) rfl rfl rfl ?_
      refine w_gfr (q := 13) rfl rfl rfl rfl (j := 121) rfl ?_
      refine w_iconst (q := 14) rfl rfl ?_
      refine w_iload_n (q := 15) rfl rfl rfl ?_
      refine w_iadd (q := 16) rfl rfl ?_
      obtain ⟨h4, k⟩ := k
      refine w_bald2 (q := 17) (n := 4) (v := I 121 (2 + a1)) rfl rfl rfl rfl rfl rfl h4 ?_
      obtain ⟨h5, k⟩ := k
      refine w_zne (t := 22) (q := 20) rfl rfl rfl h5 (fun c6 => ?_) (fun c6 => ?_)
      · replace k := k.1 c6
        refine w_aload_n (q := 23) rfl rfl rfl ?_
        refine w_iconst (q := 24) rfl rfl ?_
        refine w_iload_n (q := 25) rfl rfl rfl ?_
        refine w_iadd (q := 26) rfl rfl ?_
        refine w_iconst (q := 27) rfl rfl ?_
        refine w_callv (q := 30) rfl rfl rfl rfl rfl rfl ?_
        exact k
      · replace k := k.2 c6
        refine w_iconst (q := 21) rfl rfl ?_
        refine w_iret rfl rfl k
theorem b203_30 {xs : Nat → Int32} {xl : Nat} {I J : w_I} {b : Bool} {Q : Option Value → w_I → w_I → Bool → Prop} {u1 : Option Value} (k : Q (some (w_i 1)) I J b) : w_T xs xl 203 30 [some (.ref 104), u1] [] [] I J b Q := by
  refine w_iconst (q := 31) rfl rfl ?_
  refine w_iret rfl rfl k
theorem e204 {xs : Nat → Int32} {xl : Nat} {I J : w_I} {b : Bool} {Q : Option Value → w_I → w_I → Bool → Prop} (t : w_T xs xl 204 0 [some (.ref 104), none] [] [] I J b Q) : w_C xs xl 204 [.ref 104] I J b Q := w_en rfl t
theorem b204_0 {xs : Nat → Int32} {xl : Nat} {I J : w_I} {b : Bool} {Q : Option Value → w_I → w_I → Bool → Prop} (k : w_T xs xl 204 2 [some (.ref 104), some (w_i 0)] [] [] I J b Q) : w_T xs xl 204 0 [some (.ref 104), none] [] [] I J b Q := by
  refine w_iconst (q := 1) rfl rfl ?_
  refine w_istore_n (q := 2) (L' := [some (.ref 104), some (w_i 0)]) (M' := []) rfl rfl rfl rfl rfl ?_
  exact k
theorem b204_2 {xs : Nat → Int32} {xl : Nat} {I J : w_I} {b : Bool} {Q : Option Value → w_I → w_I → Bool → Prop} {l1 : Int} (k : ((-2147483648 ≤ l1 ∧ l1 < 2147483648) ∧ ((10 ≤ l1 → Q none I J b) ∧ (¬ 10 ≤ l1 → ((0 ≤ l1 ∧ l1 < 10) ∧ w_T xs xl 204 2 [some (.ref 104), some (w_i (l1 + 1))] [] [] (w_U I 124 l1 0) J b Q))))) : w_T xs xl 204 2 [some (.ref 104), some (w_i l1)] [] [] I J b Q := by
  refine w_iload_n (q := 3) rfl rfl rfl ?_
  refine w_bipush (q := 5) rfl rfl rfl ?_
  obtain ⟨h1, k⟩ := k
  refine w_cge (t := 21) (q := 8) rfl rfl rfl h1 (by decide) (fun c2 => ?_) (fun c2 => ?_)
  · replace k := k.1 c2
    exact w_vret rfl k
  · replace k := k.2 c2
    refine w_aload_n (q := 9) rfl rfl rfl ?_
    refine w_gfr (q := 12) rfl rfl rfl rfl (j := 124) rfl ?_
    refine w_iload_n (q := 13) rfl rfl rfl ?_
    refine w_iconst (q := 14) rfl rfl ?_
    obtain ⟨h3, k⟩ := k
    refine w_iast (q := 15) (n := 10) rfl rfl rfl rfl rfl h3 ?_
    refine w_iinc (q := 18) (L' := [some (.ref 104), some (w_i (l1 + 1))]) (M' := []) rfl rfl rfl rfl rfl rfl ?_
    refine w_goto (t := 2) rfl rfl ?_
    exact k
theorem e205 {xs : Nat → Int32} {xl : Nat} {I J : w_I} {b : Bool} {Q : Option Value → w_I → w_I → Bool → Prop} {a1 a2 : Int} (t : w_T xs xl 205 0 [some (.ref 104), some (w_i a1), some (w_i a2), none, none, none, none, none] [] [] I J b Q) : w_C xs xl 205 [.ref 104, w_i a1, w_i a2] I J b Q := w_en rfl t
theorem b205_0 {xs : Nat → Int32} {xl : Nat} {I J : w_I} {b : Bool} {Q : Option Value → w_I → w_I → Bool → Prop} {a1 a2 : Int} (k : w_T xs xl 205 10 [some (.ref 104), some (w_i a1), some (w_i a2), some (w_i 0), some (w_i a1), none, none, none] [] [] (w_U I 104 31 0) J b Q) : w_T xs xl 205 0 [some (.ref 104), some (w_i a1), some (w_i a2), none, none, none, none, none] [] [] I J b Q := by
  refine w_iconst (q := 1) rfl rfl ?_
  refine w_istore_n (q := 2) (L' := [some (.ref 104), some (w_i a1), some (w_i a2), some (w_i 0), none, none, none, none]) (M' := []) rfl rfl rfl rfl rfl ?_
  refine w_aload_n (q := 3) rfl rfl rfl ?_
  refine w_iconst (q := 4) rfl rfl ?_
  refine w_pfz (q := 7) (k' := 31) rfl rfl rfl rfl (by decide) ?_
  refine w_iload_n (q := 8) rfl rfl rfl ?_
  refine w_istore (q := 10) (L' := [some (.ref 104), some (w_i a1), some (w_i a2), some (w_i 0), some (w_i a1), none, none, none]) (M' := []) rfl rfl rfl rfl rfl ?_
  exact k
theorem b205_10 {xs : Nat → Int32} {xl : Nat} {I J : w_I} {b : Bool} {Q : Option Value → w_I → w_I → Bool → Prop} {u1 u5 u6 u7 : Option Value} {l2 l3 l4 : Int} (k : ((-2147483648 ≤ l4 ∧ l4 < 2147483648) ∧ (-2147483648 ≤ l2 ∧ l2 < 2147483648) ∧ ((l2 ≤ l4 → Q (some (w_i (I 125 0))) I J b) ∧ (¬ l2 ≤ l4 → ((0 ≤ l4 ∧ l4 < 2000) ∧ ((-2147483648 ≤ I 112 l4 ∧ I 112 l4 < 2147483648) ∧ ((2 ≤ I 112 l4 → ((0 ≤ l3 - 1 ∧ l3 - 1 < 500) ∧ ((0 ≤ l3 - 2 ∧ l3 - 2 < 500) ∧ ((¬ I 112 l4 = 5 → ((¬ I 112 l4 = 2 → ((¬ I 112 l4 = 3 → ((¬ I 112 l4 = 4 → ((-2147483648 ≤ I 125 (l3 - 2) ∧ I 125 (l3 - 2) < 2147483648) ∧ (-2147483648 ≤ I 125 (l3 - 1) ∧ I 125 (l3 - 1) < 2147483648) ∧ ¬ I 125 (l3 - 1) = 0 ∧ ((0 ≤ l3 + (-1) - 1 ∧ l3 + (-1) - 1 < 500) ∧ w_T xs xl 205 10 [some (.ref 104), u1, some (w_i l2), some (w_i (l3 + (-1))), some (w_i (l4 + 1)), some (w_i (I 112 l4)), some (w_i (I 125 (l3 - 1))), some (w_i (I 125 (l3 - 2)))] [] [] (w_U I 125 (l3 + (-1) - 1) ((I 125 (l3 - 2)).tdiv (I 125 (l3 - 1)))) J b Q))) ∧ (I 112 l4 = 4 → ((0 ≤ l3 + (-1) - 1 ∧ l3 + (-1) - 1 < 500) ∧ w_T xs xl 205 10 [some (.ref 104), u1, some (w_i l2), some (w_i (l3 + (-1))), some (w_i (l4 + 1)), some (w_i (I 112 l4)), some (w_i (I 125 (l3 - 1))), some (w_i (I 125 (l3 - 2)))] [] [] (w_U I 125 (l3 + (-1) - 1) (I 125 (l3 - 2) * I 125 (l3 - 1))) J b Q)))) ∧ (I 112 l4 = 3 → ((0 ≤ l3 + (-1) - 1 ∧ l3 + (-1) - 1 < 500) ∧ w_T xs xl 205 10 [some (.ref 104), u1, some (w_i l2), some (w_i (l3 + (-1))), some (w_i (l4 + 1)), some (w_i (I 112 l4)), some (w_i (I 125 (l3 - 1))), some (w_i (I 125 (l3 - 2)))] [] [] (w_U I 125 (l3 + (-1) - 1) (I 125 (l3 - 2) - I 125 (l3 - 1))) J b Q)))) ∧ (I 112 l4 = 2 → ((0 ≤ l3 + (-1) - 1 ∧ l3 + (-1) - 1 < 500) ∧ w_T xs xl 205 10 [some (.ref 104), u1, some (w_i l2), some (w_i (l3 + (-1))), some (w_i (l4 + 1)), some (w_i (I 112 l4)), some (w_i (I 125 (l3 - 1))), some (w_i (I 125 (l3 - 2)))] [] [] (w_U I 125 (l3 + (-1) - 1) (I 125 (l3 - 2) + I 125 (l3 - 1))) J b Q)))) ∧ (I 112 l4 = 5 → ((-2147483648 ≤ I 125 (l3 - 1) ∧ I 125 (l3 - 1) < 2147483648) ∧ ((¬ I 125 (l3 - 1) = 0 → ((¬ I 112 l4 = 2 → ((¬ I 112 l4 = 3 → ((¬ I 112 l4 = 4 → ((-2147483648 ≤ I 125 (l3 - 2) ∧ I 125 (l3 - 2) < 2147483648) ∧ ¬ I 125 (l3 - 1) = 0 ∧ ((0 ≤ l3 + (-1) - 1 ∧ l3 + (-1) - 1 < 500) ∧ w_T xs xl 205 10 [some (.ref 104), u1, some (w_i l2), some (w_i (l3 + (-1))), some (w_i (l4 + 1)), some (w_i (I 112 l4)), some (w_i (I 125 (l3 - 1))), some (w_i (I 125 (l3 - 2)))] [] [] (w_U I 125 (l3 + (-1) - 1) ((I 125 (l3 - 2)).tdiv (I 125 (l3 - 1)))) J b Q))) ∧ (I 112 l4 = 4 → ((0 ≤ l3 + (-1) - 1 ∧ l3 + (-1) - 1 < 500) ∧ w_T xs xl 205 10 [some (.ref 104), u1, some (w_i l2), some (w_i (l3 + (-1))), some (w_i (l4 + 1)), some (w_i (I 112 l4)), some (w_i (I 125 (l3 - 1))), some (w_i (I 125 (l3 - 2)))] [] [] (w_U I 125 (l3 + (-1) - 1) (I 125 (l3 - 2) * I 125 (l3 - 1))) J b Q)))) ∧ (I 112 l4 = 3 → ((0 ≤ l3 + (-1) - 1 ∧ l3 + (-1) - 1 < 500) ∧ w_T xs xl 205 10 [some (.ref 104), u1, some (w_i l2), some (w_i (l3 + (-1))), some (w_i (l4 + 1)), some (w_i (I 112 l4)), some (w_i (I 125 (l3 - 1))), some (w_i (I 125 (l3 - 2)))] [] [] (w_U I 125 (l3 + (-1) - 1) (I 125 (l3 - 2) - I 125 (l3 - 1))) J b Q)))) ∧ (I 112 l4 = 2 → ((0 ≤ l3 + (-1) - 1 ∧ l3 + (-1) - 1 < 500) ∧ w_T xs xl 205 10 [some (.ref 104), u1, some (w_i l2), some (w_i (l3 + (-1))), some (w_i (l4 + 1)), some (w_i (I 112 l4)), some (w_i (I 125 (l3 - 1))), some (w_i (I 125 (l3 - 2)))] [] [] (w_U I 125 (l3 + (-1) - 1) (I 125 (l3 - 2) + I 125 (l3 - 1))) J b Q)))) ∧ (I 125 (l3 - 1) = 0 → Q (some (w_i 0)) (w_U I 104 31 1) J b)))))))) ∧ (¬ 2 ≤ I 112 l4 → ((¬ I 112 l4 = 0 → ((0 ≤ I 113 l4 ∧ I 113 l4 < 10) ∧ ((0 ≤ l3 ∧ l3 < 500) ∧ w_T xs xl 205 10 [some (.ref 104), u1, some (w_i l2), some (w_i (l3 + 1)), some (w_i (l4 + 1)), some (w_i (I 112 l4)), u6, u7] [] [] (w_U I 125 l3 (I 124 (I 113 l4))) J b Q))) ∧ (I 112 l4 = 0 → ((0 ≤ l3 ∧ l3 < 500) ∧ w_T xs xl 205 10 [some (.ref 104), u1, some (w_i l2), some (w_i (l3 + 1)), some (w_i (l4 + 1)), some (w_i (I 112 l4)), u6, u7] [] [] (w_U I 125 l3 (I 113 l4)) J b Q))))))))))) : w_T xs xl 205 10 [some (.ref 104), u1, some (w_i l2), some (w_i l3), some (w_i l4), u5, u6, u7] [] [] I J b Q := by
  refine w_iload (q := 12) rfl rfl rfl ?_
  refine w_iload_n (q := 13) rfl rfl rfl ?_
  obtain ⟨h1, h2, k⟩ := k
  refine w_cge (t := 172) (q := 16) rfl rfl rfl h1 h2 (fun c3 => ?_) (fun c3 => ?_)
  · replace k := k.1 c3
    refine w_aload_n (q := 173) rfl rfl rfl ?_
    refine w_gfr (q := 176) rfl rfl rfl rfl (j := 125) rfl ?_
    refine w_iconst (q := 177) rfl rfl ?_
    refine w_iald (q := 178) (n := 500) (v := I 125 0) rfl rfl rfl rfl rfl rfl (by decide) ?_
    exact w_iret rfl rfl k
  · replace k := k.2 c3
    refine w_aload_n (q := 17) rfl rfl rfl ?_
    refine w_gfr (q := 20) rfl rfl rfl rfl (j := 112) rfl ?_
    refine w_iload (q := 22) rfl rfl rfl ?_
    obtain ⟨h4, k⟩ := k
    refine w_iald (q := 23) (n := 2000) (v := I 112 l4) rfl rfl rfl rfl rfl rfl h4 ?_
    refine w_istore (q := 25) (L' := [some (.ref 104), u1, some (w_i l2), some (w_i l3), some (w_i l4), some (w_i (I 112 l4)), u6, u7]) (M' := []) rfl rfl rfl rfl rfl ?_
    refine w_iload (q := 27) rfl rfl rfl ?_
    refine w_iconst (q := 28) rfl rfl ?_
    obtain ⟨h5, k⟩ := k
    refine w_cge (t := 70) (q := 31) rfl rfl rfl h5 (by decide) (fun c6 => ?_) (fun c6 => ?_)
    · replace k := k.1 c6
      refine w_aload_n (q := 71) rfl rfl rfl ?_
      refine w_gfr (q := 74) rfl rfl rfl rfl (j := 125) rfl ?_
      refine w_iload_n (q := 75) rfl rfl rfl ?_
      refine w_iconst (q := 76) rfl rfl ?_
      refine w_isub (q := 77) rfl rfl ?_
      obtain ⟨h7, k⟩ := k
      refine w_iald (q := 78) (n := 500) (v := I 125 (l3 - 1)) rfl rfl rfl rfl rfl rfl h7 ?_
      refine w_istore (q := 80) (L' := [some (.ref 104), u1, some (w_i l2), some (w_i l3), some (w_i l4), some (w_i (I 112 l4)), some (w_i (I 125 (l3 - 1))), u7]) (M' := []) rfl rfl rfl rfl rfl ?_
      refine w_aload_n (q := 81) rfl rfl rfl ?_
      refine w_gfr (q := 84) rfl rfl rfl rfl (j := 125) rfl ?_
      refine w_iload_n (q := 85) rfl rfl rfl ?_
      refine w_iconst (q := 86) rfl rfl ?_
      refine w_isub (q := 87) rfl rfl ?_
      obtain ⟨h8, k⟩ := k
      refine w_iald (q := 88) (n := 500) (v := I 125 (l3 - 2)) rfl rfl rfl rfl rfl rfl h8 ?_
      refine w_istore (q := 90) (L' := [some (.ref 104), u1, some (w_i l2), some (w_i l3), some (w_i l4), some (w_i (I 112 l4)), some (w_i (I 125 (l3 - 1))), some (w_i (I 125 (l3 - 2)))]) (M' := []) rfl rfl rfl rfl rfl ?_
      refine w_iinc (q := 93) (L' := [some (.ref 104), u1, some (w_i l2), some (w_i (l3 + (-1))), some (w_i l4), some (w_i (I 112 l4)), some (w_i (I 125 (l3 - 1))), some (w_i (I 125 (l3 - 2)))]) (M' := []) rfl rfl rfl rfl rfl rfl ?_
      refine w_iload (q := 95) rfl rfl rfl ?_
      refine w_iconst (q := 96) rfl rfl ?_
      refine w_cne (t := 111) (q := 99) rfl rfl rfl h5 (by decide) (fun c9 => ?_) (fun c9 => ?_)
      · replace k := k.1 c9
        refine w_aload_n (q := 112) rfl rfl rfl ?_
        refine w_gfr (q := 115) rfl rfl rfl rfl (j := 125) rfl ?_
        refine w_iload_n (q := 116) rfl rfl rfl ?_
        refine w_iconst (q := 117) rfl rfl ?_
        refine w_isub (q := 118) rfl rfl ?_
        refine w_iload (q := 120) rfl rfl rfl ?_
        refine w_iconst (q := 121) rfl rfl ?_
        refine w_cne (t := 132) (q := 124) rfl rfl rfl h5 (by decide) (fun c10 => ?_) (fun c10 => ?_)
        · replace k := k.1 c10
          refine w_iload (q := 134) rfl rfl rfl ?_
          refine w_iconst (q := 135) rfl rfl ?_
          refine w_cne (t := 146) (q := 138) rfl rfl rfl h5 (by decide) (fun c11 => ?_) (fun c11 => ?_)
          · replace k := k.1 c11
            refine w_iload (q := 148) rfl rfl rfl ?_
            refine w_iconst (q := 149) rfl rfl ?_
            refine w_cne (t := 160) (q := 152) rfl rfl rfl h5 (by decide) (fun c12 => ?_) (fun c12 => ?_)
            · replace k := k.1 c12
              refine w_iload (q := 162) rfl rfl rfl ?_
              refine w_iload (q := 164) rfl rfl rfl ?_
              obtain ⟨h13, h14, h15, k⟩ := k
              refine w_idivG (q := 165) rfl rfl h13 h14 h15 ?_
              obtain ⟨h16, k⟩ := k
              refine w_iast (q := 166) (n := 500) rfl rfl rfl rfl rfl h16 ?_
              refine w_iinc (q := 169) (L' := [some (.ref 104), u1, some (w_i l2), some (w_i (l3 + (-1))), some (w_i (l4 + 1)), some (w_i (I 112 l4)), some (w_i (I 125 (l3 - 1))), some (w_i (I 125 (l3 - 2)))]) (M' := []) rfl rfl rfl rfl rfl rfl ?_
              refine w_goto (t := 10) rfl rfl ?_
              exact k
            · replace k := k.2 c12
              refine w_iload (q := 154) rfl rfl rfl ?_
              refine w_iload (q := 156) rfl rfl rfl ?_
              refine w_imul (q := 157) rfl rfl ?_
              refine w_goto (t := 165) rfl rfl ?_
              obtain ⟨h17, k⟩ := k
              refine w_iast (q := 166) (n := 500) rfl rfl rfl rfl rfl h17 ?_
              refine w_iinc (q := 169) (L' := [some (.ref 104), u1, some (w_i l2), some (w_i (l3 + (-1))), some (w_i (l4 + 1)), some (w_i (I 112 l4)), some (w_i (I 125 (l3 - 1))), some (w_i (I 125 (l3 - 2)))]) (M' := []) rfl rfl rfl rfl rfl rfl ?_
              refine w_goto (t := 10) rfl rfl ?_
              exact k
          · replace k := k.2 c11
            refine w_iload (q := 140) rfl rfl rfl ?_
            refine w_iload (q := 142) rfl rfl rfl ?_
            refine w_isub (q := 143) rfl rfl ?_
            refine w_goto (t := 165) rfl rfl ?_
            obtain ⟨h18, k⟩ := k
            refine w_iast (q := 166) (n := 500) rfl rfl rfl rfl rfl h18 ?_
            refine w_iinc (q := 169) (L' := [some (.ref 104), u1, some (w_i l2), some (w_i (l3 + (-1))), some (w_i (l4 + 1)), some (w_i (I 112 l4)), some (w_i (I 125 (l3 - 1))), some (w_i (I 125 (l3 - 2)))]) (M' := []) rfl rfl rfl rfl rfl rfl ?_
            refine w_goto (t := 10) rfl rfl ?_
            exact k
        · replace k := k.2 c10
          refine w_iload (q := 126) rfl rfl rfl ?_
          refine w_iload (q := 128) rfl rfl rfl ?_
          refine w_iadd (q := 129) rfl rfl ?_
          refine w_goto (t := 165) rfl rfl ?_
          obtain ⟨h19, k⟩ := k
          refine w_iast (q := 166) (n := 500) rfl rfl rfl rfl rfl h19 ?_
          refine w_iinc (q := 169) (L' := [some (.ref 104), u1, some (w_i l2), some (w_i (l3 + (-1))), some (w_i (l4 + 1)), some (w_i (I 112 l4)), some (w_i (I 125 (l3 - 1))), some (w_i (I 125 (l3 - 2)))]) (M' := []) rfl rfl rfl rfl rfl rfl ?_
          refine w_goto (t := 10) rfl rfl ?_
          exact k
      · replace k := k.2 c9
        refine w_iload (q := 101) rfl rfl rfl ?_
        obtain ⟨h20, k⟩ := k
        refine w_zne (t := 111) (q := 104) rfl rfl rfl h20 (fun c21 => ?_) (fun c21 => ?_)
        · replace k := k.1 c21
          refine w_aload_n (q := 112) rfl rfl rfl ?_
          refine w_gfr (q := 115) rfl rfl rfl rfl (j := 125) rfl ?_
          refine w_iload_n (q := 116) rfl rfl rfl ?_
          refine w_iconst (q := 117) rfl rfl ?_
          refine w_isub (q := 118) rfl rfl ?_
          refine w_iload (q := 120) rfl rfl rfl ?_
          refine w_iconst (q := 121) rfl rfl ?_
          refine w_cne (t := 132) (q := 124) rfl rfl rfl h5 (by decide) (fun c22 => ?_) (fun c22 => ?_)
          · replace k := k.1 c22
            refine w_iload (q := 134) rfl rfl rfl ?_
            refine w_iconst (q := 135) rfl rfl ?_
            refine w_cne (t := 146) (q := 138) rfl rfl rfl h5 (by decide) (fun c23 => ?_) (fun c23 => ?_)
            · replace k := k.1 c23
              refine w_iload (q := 148) rfl rfl rfl ?_
              refine w_iconst (q := 149) rfl rfl ?_
              refine w_cne (t := 160) (q := 152) rfl rfl rfl h5 (by decide) (fun c24 => ?_) (fun c24 => ?_)
              · replace k := k.1 c24
                refine w_iload (q := 162) rfl rfl rfl ?_
                refine w_iload (q := 164) rfl rfl rfl ?_
                obtain ⟨h25, h26, k⟩ := k
                refine w_idivG (q := 165) rfl rfl h25 h20 h26 ?_
                obtain ⟨h27, k⟩ := k
                refine w_iast (q := 166) (n := 500) rfl rfl rfl rfl rfl h27 ?_
                refine w_iinc (q := 169) (L' := [some (.ref 104), u1, some (w_i l2), some (w_i (l3 + (-1))), some (w_i (l4 + 1)), some (w_i (I 112 l4)), some (w_i (I 125 (l3 - 1))), some (w_i (I 125 (l3 - 2)))]) (M' := []) rfl rfl rfl rfl rfl rfl ?_
                refine w_goto (t := 10) rfl rfl ?_
                exact k
              · replace k := k.2 c24
                refine w_iload (q := 154) rfl rfl rfl ?_
                refine w_iload (q := 156) rfl rfl rfl ?_
                refine w_imul (q := 157) rfl rfl ?_
                refine w_goto (t := 165) rfl rfl ?_
                obtain ⟨h28, k⟩ := k
                refine w_iast (q := 166) (n := 500) rfl rfl rfl rfl rfl h28 ?_
                refine w_iinc (q := 169) (L' := [some (.ref 104), u1, some (w_i l2), some (w_i (l3 + (-1))), some (w_i (l4 + 1)), some (w_i (I 112 l4)), some (w_i (I 125 (l3 - 1))), some (w_i (I 125 (l3 - 2)))]) (M' := []) rfl rfl rfl rfl rfl rfl ?_
                refine w_goto (t := 10) rfl rfl ?_
                exact k
            · replace k := k.2 c23
              refine w_iload (q := 140) rfl rfl rfl ?_
              refine w_iload (q := 142) rfl rfl rfl ?_
              refine w_isub (q := 143) rfl rfl ?_
              refine w_goto (t := 165) rfl rfl ?_
              obtain ⟨h29, k⟩ := k
              refine w_iast (q := 166) (n := 500) rfl rfl rfl rfl rfl h29 ?_
              refine w_iinc (q := 169) (L' := [some (.ref 104), u1, some (w_i l2), some (w_i (l3 + (-1))), some (w_i (l4 + 1)), some (w_i (I 112 l4)), some (w_i (I 125 (l3 - 1))), some (w_i (I 125 (l3 - 2)))]) (M' := []) rfl rfl rfl rfl rfl rfl ?_
              refine w_goto (t := 10) rfl rfl ?_
              exact k
          · replace k := k.2 c22
            refine w_iload (q := 126) rfl rfl rfl ?_
            refine w_iload (q := 128) rfl rfl rfl ?_
            refine w_iadd (q := 129) rfl rfl ?_
            refine w_goto (t := 165) rfl rfl ?_
            obtain ⟨h30, k⟩ := k
            refine w_iast (q := 166) (n := 500) rfl rfl rfl rfl rfl h30 ?_
            refine w_iinc (q := 169) (L' := [some (.ref 104), u1, some (w_i l2), some (w_i (l3 + (-1))), some (w_i (l4 + 1)), some (w_i (I 112 l4)), some (w_i (I 125 (l3 - 1))), some (w_i (I 125 (l3 - 2)))]) (M' := []) rfl rfl rfl rfl rfl rfl ?_
            refine w_goto (t := 10) rfl rfl ?_
            exact k
        · replace k := k.2 c21
          refine w_aload_n (q := 105) rfl rfl rfl ?_
          refine w_iconst (q := 106) rfl rfl ?_
          refine w_pfz (q := 109) (k' := 31) rfl rfl rfl rfl (by decide) ?_
          refine w_iconst (q := 110) rfl rfl ?_
          exact w_iret rfl rfl k
    · replace k := k.2 c6
      refine w_aload_n (q := 32) rfl rfl rfl ?_
      refine w_gfr (q := 35) rfl rfl rfl rfl (j := 125) rfl ?_
      refine w_iload_n (q := 36) rfl rfl rfl ?_
      refine w_iload (q := 38) rfl rfl rfl ?_
      refine w_zne (t := 51) (q := 41) rfl rfl rfl h5 (fun c31 => ?_) (fun c31 => ?_)
      · replace k := k.1 c31
        refine w_aload_n (q := 52) rfl rfl rfl ?_
        refine w_gfr (q := 55) rfl rfl rfl rfl (j := 124) rfl ?_
        refine w_aload_n (q := 56) rfl rfl rfl ?_
        refine w_gfr (q := 59) rfl rfl rfl rfl (j := 113) rfl ?_
        refine w_iload (q := 61) rfl rfl rfl ?_
        refine w_iald (q := 62) (n := 2000) (v := I 113 l4) rfl rfl rfl rfl rfl rfl h4 ?_
        obtain ⟨h32, k⟩ := k
        refine w_iald (q := 63) (n := 10) (v := I 124 (I 113 l4)) rfl rfl rfl rfl rfl rfl h32 ?_
        obtain ⟨h33, k⟩ := k
        refine w_iast (q := 64) (n := 500) rfl rfl rfl rfl rfl h33 ?_
        refine w_iinc (q := 67) (L' := [some (.ref 104), u1, some (w_i l2), some (w_i (l3 + 1)), some (w_i l4), some (w_i (I 112 l4)), u6, u7]) (M' := []) rfl rfl rfl rfl rfl rfl ?_
        refine w_goto (t := 166) rfl rfl ?_
        refine w_iinc (q := 169) (L' := [some (.ref 104), u1, some (w_i l2), some (w_i (l3 + 1)), some (w_i (l4 + 1)), some (w_i (I 112 l4)), u6, u7]) (M' := []) rfl rfl rfl rfl rfl rfl ?_
        refine w_goto (t := 10) rfl rfl ?_
        exact k
      · replace k := k.2 c31
        refine w_aload_n (q := 42) rfl rfl rfl ?_
        refine w_gfr (q := 45) rfl rfl rfl rfl (j := 113) rfl ?_
        refine w_iload (q := 47) rfl rfl rfl ?_
        refine w_iald (q := 48) (n := 2000) (v := I 113 l4) rfl rfl rfl rfl rfl rfl h4 ?_
        refine w_goto (t := 63) rfl rfl ?_
        obtain ⟨h34, k⟩ := k
        refine w_iast (q := 64) (n := 500) rfl rfl rfl rfl rfl h34 ?_
        refine w_iinc (q := 67) (L' := [some (.ref 104), u1, some (w_i l2), some (w_i (l3 + 1)), some (w_i l4), some (w_i (I 112 l4)), u6, u7]) (M' := []) rfl rfl rfl rfl rfl rfl ?_
        refine w_goto (t := 166) rfl rfl ?_
        refine w_iinc (q := 169) (L' := [some (.ref 104), u1, some (w_i l2), some (w_i (l3 + 1)), some (w_i (l4 + 1)), some (w_i (I 112 l4)), u6, u7]) (M' := []) rfl rfl rfl rfl rfl rfl ?_
        refine w_goto (t := 10) rfl rfl ?_
        exact k
theorem e206 {xs : Nat → Int32} {xl : Nat} {I J : w_I} {b : Bool} {Q : Option Value → w_I → w_I → Bool → Prop} {a1 : Int} (t : w_T xs xl 206 0 [some (.ref 104), some (w_i a1), none, none, none] [] [] I J b Q) : w_C xs xl 206 [.ref 104, w_i a1] I J b Q := w_en rfl t
theorem b206_0 {xs : Nat → Int32} {xl : Nat} {I J : w_I} {b : Bool} {Q : Option Value → w_I → w_I → Bool → Prop} {a1 : Int} (k : ((0 ≤ a1 ∧ a1 < 800) ∧ w_C xs xl 205 [.ref 104, w_i (I 117 a1), w_i (I 118 a1)] I J b (fun v Ic Jc bc => w_T xs xl 206 16 [some (.ref 104), some (w_i a1), none, none, none] [] (w_pv v []) Ic Jc bc Q))) : w_T xs xl 206 0 [some (.ref 104), some (w_i a1), none, none, none] [] [] I J b Q := by
  refine w_aload_n (q := 1) rfl rfl rfl ?_
  refine w_aload_n (q := 2) rfl rfl rfl ?_
  refine w_gfr (q := 5) rfl rfl rfl rfl (j := 117) rfl ?_
  refine w_iload_n (q := 6) rfl rfl rfl ?_
  obtain ⟨h1, k⟩ := k
  refine w_iald (q := 7) (n := 800) (v := I 117 a1) rfl rfl rfl rfl rfl rfl h1 ?_
  refine w_aload_n (q := 8) rfl rfl rfl ?_
  refine w_gfr (q := 11) rfl rfl rfl rfl (j := 118) rfl ?_
  refine w_iload_n (q := 12) rfl rfl rfl ?_
  refine w_iald (q := 13) (n := 800) (v := I 118 a1) rfl rfl rfl rfl rfl rfl h1 ?_
  refine w_callv (q := 16) rfl rfl rfl rfl rfl rfl ?_
  exact k
theorem b206_16 {xs : Nat → Int32} {xl : Nat} {I J : w_I} {b : Bool} {Q : Option Value → w_I → w_I → Bool → Prop} {l1 s0 : Int} {u2 u3 u4 : Option Value} (k : ((-2147483648 ≤ I 104 31 ∧ I 104 31 < 2147483648) ∧ ((I 104 31 = 0 → ((0 ≤ l1 ∧ l1 < 800) ∧ w_C xs xl 205 [.ref 104, w_i (I 118 l1), w_i (I 119 l1)] I J b (fun v Ic Jc bc => w_T xs xl 206 47 [some (.ref 104), some (w_i l1), some (w_i s0), u3, u4] [] (w_pv v []) Ic Jc bc Q))) ∧ (¬ I 104 31 = 0 → ((0 ≤ l1 ∧ l1 < 800) ∧ ((I 115 l1 = 0 ∨ I 115 l1 = 1) ∧ Q (some (w_i (I 115 l1))) I J b)))))) : w_T xs xl 206 16 [some (.ref 104), some (w_i l1), u2, u3, u4] [] [w_i s0] I J b Q := by
  refine w_istore_n (q := 17) (L' := [some (.ref 104), some (w_i l1), some (w_i s0), u3, u4]) (M' := []) rfl rfl rfl rfl rfl ?_
  refine w_aload_n (q := 18) rfl rfl rfl ?_
  refine w_gfi (q := 21) (k' := 31) (v := I 104 31) rfl rfl rfl rfl rfl rfl rfl ?_
  obtain ⟨h1, k⟩ := k
  refine w_zeq (t := 31) (q := 24) rfl rfl rfl h1 (fun c2 => ?_) (fun c2 => ?_)
  · replace k := k.1 c2
    refine w_aload_n (q := 32) rfl rfl rfl ?_
    refine w_aload_n (q := 33) rfl rfl rfl ?_
    refine w_gfr (q := 36) rfl rfl rfl rfl (j := 118) rfl ?_
    refine w_iload_n (q := 37) rfl rfl rfl ?_
    obtain ⟨h3, k⟩ := k
    refine w_iald (q := 38) (n := 800) (v := I 118 l1) rfl rfl rfl rfl rfl rfl h3 ?_
    refine w_aload_n (q := 39) rfl rfl rfl ?_
    refine w_gfr (q := 42) rfl rfl rfl rfl (j := 119) rfl ?_
    refine w_iload_n (q := 43) rfl rfl rfl ?_
    refine w_iald (q := 44) (n := 800) (v := I 119 l1) rfl rfl rfl rfl rfl rfl h3 ?_
    refine w_callv (q := 47) rfl rfl rfl rfl rfl rfl ?_
    exact k
  · replace k := k.2 c2
    refine w_aload_n (q := 25) rfl rfl rfl ?_
    refine w_gfr (q := 28) rfl rfl rfl rfl (j := 115) rfl ?_
    refine w_iload_n (q := 29) rfl rfl rfl ?_
    obtain ⟨h4, k⟩ := k
    refine w_bald2 (q := 30) (n := 800) (v := I 115 l1) rfl rfl rfl rfl rfl rfl h4 ?_
    obtain ⟨h5, k⟩ := k
    refine w_iret rfl (w_nz1 h5) k
theorem b206_47 {xs : Nat → Int32} {xl : Nat} {I J : w_I} {b : Bool} {Q : Option Value → w_I → w_I → Bool → Prop} {l1 l2 s0 : Int} {u3 u4 : Option Value} (k : ((-2147483648 ≤ I 104 31 ∧ I 104 31 < 2147483648) ∧ ((I 104 31 = 0 → ((0 ≤ l1 ∧ l1 < 800) ∧ ((-2147483648 ≤ I 116 l1 ∧ I 116 l1 < 2147483648) ∧ ((¬ I 116 l1 = 300 → ((¬ I 116 l1 = 301 → ((¬ I 116 l1 = 302 → ((-2147483648 ≤ l2 ∧ l2 < 2147483648) ∧ (-2147483648 ≤ s0 ∧ s0 < 2147483648) ∧ ((s0 ≤ l2 → ((-2147483648 ≤ I 115 l1 ∧ I 115 l1 < 2147483648) ∧ ((0 = I 115 l1 → Q (some (w_i 0)) I J b) ∧ (¬ 0 = I 115 l1 → Q (some (w_i 1)) I J b)))) ∧ (¬ s0 ≤ l2 → ((-2147483648 ≤ I 115 l1 ∧ I 115 l1 < 2147483648) ∧ ((1 = I 115 l1 → Q (some (w_i 0)) I J b) ∧ (¬ 1 = I 115 l1 → Q (some (w_i 1)) I J b))))))) ∧ (I 116 l1 = 302 → ((-2147483648 ≤ l2 ∧ l2 < 2147483648) ∧ (-2147483648 ≤ s0 ∧ s0 < 2147483648) ∧ ((s0 < l2 → ((-2147483648 ≤ I 115 l1 ∧ I 115 l1 < 2147483648) ∧ ((0 = I 115 l1 → Q (some (w_i 0)) I J b) ∧ (¬ 0 = I 115 l1 → Q (some (w_i 1)) I J b)))) ∧ (¬ s0 < l2 → ((-2147483648 ≤ I 115 l1 ∧ I 115 l1 < 2147483648) ∧ ((1 = I 115 l1 → Q (some (w_i 0)) I J b) ∧ (¬ 1 = I 115 l1 → Q (some (w_i 1)) I J b))))))))) ∧ (I 116 l1 = 301 → ((-2147483648 ≤ l2 ∧ l2 < 2147483648) ∧ (-2147483648 ≤ s0 ∧ s0 < 2147483648) ∧ ((l2 = s0 → ((-2147483648 ≤ I 115 l1 ∧ I 115 l1 < 2147483648) ∧ ((0 = I 115 l1 → Q (some (w_i 0)) I J b) ∧ (¬ 0 = I 115 l1 → Q (some (w_i 1)) I J b)))) ∧ (¬ l2 = s0 → ((-2147483648 ≤ I 115 l1 ∧ I 115 l1 < 2147483648) ∧ ((1 = I 115 l1 → Q (some (w_i 0)) I J b) ∧ (¬ 1 = I 115 l1 → Q (some (w_i 1)) I J b))))))))) ∧ (I 116 l1 = 300 → ((-2147483648 ≤ l2 ∧ l2 < 2147483648) ∧ (-2147483648 ≤ s0 ∧ s0 < 2147483648) ∧ ((¬ l2 = s0 → ((-2147483648 ≤ I 115 l1 ∧ I 115 l1 < 2147483648) ∧ ((0 = I 115 l1 → Q (some (w_i 0)) I J b) ∧ (¬ 0 = I 115 l1 → Q (some (w_i 1)) I J b)))) ∧ (l2 = s0 → ((-2147483648 ≤ I 115 l1 ∧ I 115 l1 < 2147483648) ∧ ((1 = I 115 l1 → Q (some (w_i 0)) I J b) ∧ (¬ 1 = I 115 l1 → Q (some (w_i 1)) I J b))))))))))) ∧ (¬ I 104 31 = 0 → ((0 ≤ l1 ∧ l1 < 800) ∧ ((I 115 l1 = 0 ∨ I 115 l1 = 1) ∧ Q (some (w_i (I 115 l1))) I J b)))))) : w_T xs xl 206 47 [some (.ref 104), some (w_i l1), some (w_i l2), u3, u4] [] [w_i s0] I J b Q := by
  refine w_istore_n (q := 48) (L' := [some (.ref 104), some (w_i l1), some (w_i l2), some (w_i s0), u4]) (M' := []) rfl rfl rfl rfl rfl ?_
  refine w_aload_n (q := 49) rfl rfl rfl ?_
  refine w_gfi (q := 52) (k' := 31) (v := I 104 31) rfl rfl rfl rfl rfl rfl rfl ?_
  obtain ⟨h1, k⟩ := k
  refine w_zeq (t := 62) (q := 55) rfl rfl rfl h1 (fun c2 => ?_) (fun c2 => ?_)
  · replace k := k.1 c2
    refine w_aload_n (q := 63) rfl rfl rfl ?_
    refine w_gfr (q := 66) rfl rfl rfl rfl (j := 116) rfl ?_
    refine w_iload_n (q := 67) rfl rfl rfl ?_
    obtain ⟨h3, k⟩ := k
    refine w_iald (q := 68) (n := 800) (v := I 116 l1) rfl rfl rfl rfl rfl rfl h3 ?_
    refine w_sipush (q := 71) rfl rfl rfl ?_
    obtain ⟨h4, k⟩ := k
    refine w_cne (t := 87) (q := 74) rfl rfl rfl h4 (by decide) (fun c5 => ?_) (fun c5 => ?_)
    · replace k := k.1 c5
      refine w_aload_n (q := 88) rfl rfl rfl ?_
      refine w_gfr (q := 91) rfl rfl rfl rfl (j := 116) rfl ?_
      refine w_iload_n (q := 92) rfl rfl rfl ?_
      refine w_iald (q := 93) (n := 800) (v := I 116 l1) rfl rfl rfl rfl rfl rfl h3 ?_
      refine w_sipush (q := 96) rfl rfl rfl ?_
      refine w_cne (t := 112) (q := 99) rfl rfl rfl h4 (by decide) (fun c6 => ?_) (fun c6 => ?_)
      · replace k := k.1 c6
        refine w_aload_n (q := 113) rfl rfl rfl ?_
        refine w_gfr (q := 116) rfl rfl rfl rfl (j := 116) rfl ?_
        refine w_iload_n (q := 117) rfl rfl rfl ?_
        refine w_iald (q := 118) (n := 800) (v := I 116 l1) rfl rfl rfl rfl rfl rfl h3 ?_
        refine w_sipush (q := 121) rfl rfl rfl ?_
        refine w_cne (t := 137) (q := 124) rfl rfl rfl h4 (by decide) (fun c7 => ?_) (fun c7 => ?_)
        · replace k := k.1 c7
          refine w_iload_n (q := 138) rfl rfl rfl ?_
          refine w_iload_n (q := 139) rfl rfl rfl ?_
          obtain ⟨h8, h9, k⟩ := k
          refine w_cge (t := 146) (q := 142) rfl rfl rfl h8 h9 (fun c10 => ?_) (fun c10 => ?_)
          · replace k := k.1 c10
            refine w_iconst (q := 147) rfl rfl ?_
            refine w_istore (q := 149) (L' := [some (.ref 104), some (w_i l1), some (w_i l2), some (w_i s0), some (w_i 0)]) (M' := []) rfl rfl rfl rfl rfl ?_
            refine w_iload (q := 151) rfl rfl rfl ?_
            refine w_aload_n (q := 152) rfl rfl rfl ?_
            refine w_gfr (q := 155) rfl rfl rfl rfl (j := 115) rfl ?_
            refine w_iload_n (q := 156) rfl rfl rfl ?_
            refine w_bald2 (q := 157) (n := 800) (v := I 115 l1) rfl rfl rfl rfl rfl rfl h3 ?_
            obtain ⟨h11, k⟩ := k
            refine w_ceq (t := 164) (q := 160) rfl rfl rfl (by decide) h11 (fun c12 => ?_) (fun c12 => ?_)
            · replace k := k.1 c12
              refine w_iconst (q := 165) rfl rfl ?_
              refine w_iret rfl rfl k
            · replace k := k.2 c12
              refine w_iconst (q := 161) rfl rfl ?_
              refine w_goto (t := 165) rfl rfl ?_
              refine w_iret rfl rfl k
          · replace k := k.2 c10
            refine w_iconst (q := 143) rfl rfl ?_
            refine w_goto (t := 147) rfl rfl ?_
            refine w_istore (q := 149) (L' := [some (.ref 104), some (w_i l1), some (w_i l2), some (w_i s0), some (w_i 1)]) (M' := []) rfl rfl rfl rfl rfl ?_
            refine w_iload (q := 151) rfl rfl rfl ?_
            refine w_aload_n (q := 152) rfl rfl rfl ?_
            refine w_gfr (q := 155) rfl rfl rfl rfl (j := 115) rfl ?_
            refine w_iload_n (q := 156) rfl rfl rfl ?_
            refine w_bald2 (q := 157) (n := 800) (v := I 115 l1) rfl rfl rfl rfl rfl rfl h3 ?_
            obtain ⟨h13, k⟩ := k
            refine w_ceq (t := 164) (q := 160) rfl rfl rfl (by decide) h13 (fun c14 => ?_) (fun c14 => ?_)
            · replace k := k.1 c14
              refine w_iconst (q := 165) rfl rfl ?_
              refine w_iret rfl rfl k
            · replace k := k.2 c14
              refine w_iconst (q := 161) rfl rfl ?_
              refine w_goto (t := 165) rfl rfl ?_
              refine w_iret rfl rfl k
        · replace k := k.2 c7
          refine w_iload_n (q := 125) rfl rfl rfl ?_
          refine w_iload_n (q := 126) rfl rfl rfl ?_
          obtain ⟨h15, h16, k⟩ := k
          refine w_cgt (t := 133) (q := 129) rfl rfl rfl h15 h16 (fun c17 => ?_) (fun c17 => ?_)
          · replace k := k.1 c17
            refine w_iconst (q := 134) rfl rfl ?_
            refine w_goto (t := 147) rfl rfl ?_
            refine w_istore (q := 149) (L' := [some (.ref 104), some (w_i l1), some (w_i l2), some (w_i s0), some (w_i 0)]) (M' := []) rfl rfl rfl rfl rfl ?_
            refine w_iload (q := 151) rfl rfl rfl ?_
            refine w_aload_n (q := 152) rfl rfl rfl ?_
            refine w_gfr (q := 155) rfl rfl rfl rfl (j := 115) rfl ?_
            refine w_iload_n (q := 156) rfl rfl rfl ?_
            refine w_bald2 (q := 157) (n := 800) (v := I 115 l1) rfl rfl rfl rfl rfl rfl h3 ?_
            obtain ⟨h18, k⟩ := k
            refine w_ceq (t := 164) (q := 160) rfl rfl rfl (by decide) h18 (fun c19 => ?_) (fun c19 => ?_)
            · replace k := k.1 c19
              refine w_iconst (q := 165) rfl rfl ?_
              refine w_iret rfl rfl k
            · replace k := k.2 c19
              refine w_iconst (q := 161) rfl rfl ?_
              refine w_goto (t := 165) rfl rfl ?_
              refine w_iret rfl rfl k
          · replace k := k.2 c17
            refine w_iconst (q := 130) rfl rfl ?_
            refine w_goto (t := 147) rfl rfl ?_
            refine w_istore (q := 149) (L' := [some (.ref 104), some (w_i l1), some (w_i l2), some (w_i s0), some (w_i 1)]) (M' := []) rfl rfl rfl rfl rfl ?_
            refine w_iload (q := 151) rfl rfl rfl ?_
            refine w_aload_n (q := 152) rfl rfl rfl ?_
            refine w_gfr (q := 155) rfl rfl rfl rfl (j := 115) rfl ?_
            refine w_iload_n (q := 156) rfl rfl rfl ?_
            refine w_bald2 (q := 157) (n := 800) (v := I 115 l1) rfl rfl rfl rfl rfl rfl h3 ?_
            obtain ⟨h20, k⟩ := k
            refine w_ceq (t := 164) (q := 160) rfl rfl rfl (by decide) h20 (fun c21 => ?_) (fun c21 => ?_)
            · replace k := k.1 c21
              refine w_iconst (q := 165) rfl rfl ?_
              refine w_iret rfl rfl k
            · replace k := k.2 c21
              refine w_iconst (q := 161) rfl rfl ?_
              refine w_goto (t := 165) rfl rfl ?_
              refine w_iret rfl rfl k
      · replace k := k.2 c6
        refine w_iload_n (q := 100) rfl rfl rfl ?_
        refine w_iload_n (q := 101) rfl rfl rfl ?_
        obtain ⟨h22, h23, k⟩ := k
        refine w_ceq (t := 108) (q := 104) rfl rfl rfl h22 h23 (fun c24 => ?_) (fun c24 => ?_)
        · replace k := k.1 c24
          refine w_iconst (q := 109) rfl rfl ?_
          refine w_goto (t := 147) rfl rfl ?_
          refine w_istore (q := 149) (L' := [some (.ref 104), some (w_i l1), some (w_i l2), some (w_i s0), some (w_i 0)]) (M' := []) rfl rfl rfl rfl rfl ?_
          refine w_iload (q := 151) rfl rfl rfl ?_
          refine w_aload_n (q := 152) rfl rfl rfl ?_
          refine w_gfr (q := 155) rfl rfl rfl rfl (j := 115) rfl ?_
          refine w_iload_n (q := 156) rfl rfl rfl ?_
          refine w_bald2 (q := 157) (n := 800) (v := I 115 l1) rfl rfl rfl rfl rfl rfl h3 ?_
          obtain ⟨h25, k⟩ := k
          refine w_ceq (t := 164) (q := 160) rfl rfl rfl (by decide) h25 (fun c26 => ?_) (fun c26 => ?_)
          · replace k := k.1 c26
            refine w_iconst (q := 165) rfl rfl ?_
            refine w_iret rfl rfl k
          · replace k := k.2 c26
            refine w_iconst (q := 161) rfl rfl ?_
            refine w_goto (t := 165) rfl rfl ?_
            refine w_iret rfl rfl k
        · replace k := k.2 c24
          refine w_iconst (q := 105) rfl rfl ?_
          refine w_goto (t := 147) rfl rfl ?_
          refine w_istore (q := 149) (L' := [some (.ref 104), some (w_i l1), some (w_i l2), some (w_i s0), some (w_i 1)]) (M' := []) rfl rfl rfl rfl rfl ?_
          refine w_iload (q := 151) rfl rfl rfl ?_
          refine w_aload_n (q := 152) rfl rfl rfl ?_
          refine w_gfr (q := 155) rfl rfl rfl rfl (j := 115) rfl ?_
          refine w_iload_n (q := 156) rfl rfl rfl ?_
          refine w_bald2 (q := 157) (n := 800) (v := I 115 l1) rfl rfl rfl rfl rfl rfl h3 ?_
          obtain ⟨h27, k⟩ := k
          refine w_ceq (t := 164) (q := 160) rfl rfl rfl (by decide) h27 (fun c28 => ?_) (fun c28 => ?_)
          · replace k := k.1 c28
            refine w_iconst (q := 165) rfl rfl ?_
            refine w_iret rfl rfl k
          · replace k := k.2 c28
            refine w_iconst (q := 161) rfl rfl ?_
            refine w_goto (t := 165) rfl rfl ?_
            refine w_iret rfl rfl k
    · replace k := k.2 c5
      refine w_iload_n (q := 75) rfl rfl rfl ?_
      refine w_iload_n (q := 76) rfl rfl rfl ?_
      obtain ⟨h29, h30, k⟩ := k
      refine w_cne (t := 83) (q := 79) rfl rfl rfl h29 h30 (fun c31 => ?_) (fun c31 => ?_)
      · replace k := k.1 c31
        refine w_iconst (q := 84) rfl rfl ?_
        refine w_goto (t := 147) rfl rfl ?_
        refine w_istore (q := 149) (L' := [some (.ref 104), some (w_i l1), some (w_i l2), some (w_i s0), some (w_i 0)]) (M' := []) rfl rfl rfl rfl rfl ?_
        refine w_iload (q := 151) rfl rfl rfl ?_
        refine w_aload_n (q := 152) rfl rfl rfl ?_
        refine w_gfr (q := 155) rfl rfl rfl rfl (j := 115) rfl ?_
        refine w_iload_n (q := 156) rfl rfl rfl ?_
        refine w_bald2 (q := 157) (n := 800) (v := I 115 l1) rfl rfl rfl rfl rfl rfl h3 ?_
        obtain ⟨h32, k⟩ := k
        refine w_ceq (t := 164) (q := 160) rfl rfl rfl (by decide) h32 (fun c33 => ?_) (fun c33 => ?_)
        · replace k := k.1 c33
          refine w_iconst (q := 165) rfl rfl ?_
          refine w_iret rfl rfl k
        · replace k := k.2 c33
          refine w_iconst (q := 161) rfl rfl ?_
          refine w_goto (t := 165) rfl rfl ?_
          refine w_iret rfl rfl k
      · replace k := k.2 c31
        refine w_iconst (q := 80) rfl rfl ?_
        refine w_goto (t := 147) rfl rfl ?_
        refine w_istore (q := 149) (L' := [some (.ref 104), some (w_i l1), some (w_i l2), some (w_i s0), some (w_i 1)]) (M' := []) rfl rfl rfl rfl rfl ?_
        refine w_iload (q := 151) rfl rfl rfl ?_
        refine w_aload_n (q := 152) rfl rfl rfl ?_
        refine w_gfr (q := 155) rfl rfl rfl rfl (j := 115) rfl ?_
        refine w_iload_n (q := 156) rfl rfl rfl ?_
        refine w_bald2 (q := 157) (n := 800) (v := I 115 l1) rfl rfl rfl rfl rfl rfl h3 ?_
        obtain ⟨h34, k⟩ := k
        refine w_ceq (t := 164) (q := 160) rfl rfl rfl (by decide) h34 (fun c35 => ?_) (fun c35 => ?_)
        · replace k := k.1 c35
          refine w_iconst (q := 165) rfl rfl ?_
          refine w_iret rfl rfl k
        · replace k := k.2 c35
          refine w_iconst (q := 161) rfl rfl ?_
          refine w_goto (t := 165) rfl rfl ?_
          refine w_iret rfl rfl k
  · replace k := k.2 c2
    refine w_aload_n (q := 56) rfl rfl rfl ?_
    refine w_gfr (q := 59) rfl rfl rfl rfl (j := 115) rfl ?_
    refine w_iload_n (q := 60) rfl rfl rfl ?_
    obtain ⟨h36, k⟩ := k
    refine w_bald2 (q := 61) (n := 800) (v := I 115 l1) rfl rfl rfl rfl rfl rfl h36 ?_
    obtain ⟨h37, k⟩ := k
    refine w_iret rfl (w_nz1 h37) k
theorem e207 {xs : Nat → Int32} {xl : Nat} {I J : w_I} {b : Bool} {Q : Option Value → w_I → w_I → Bool → Prop} {a1 a2 : Int} (t : w_T xs xl 207 0 [some (.ref 104), some (w_i a1), some (w_i a2), none, none, none] [] [] I J b Q) : w_C xs xl 207 [.ref 104, w_i a1, w_i a2] I J b Q := w_en rfl t
theorem b207_0 {xs : Nat → Int32} {xl : Nat} {I J : w_I} {b : Bool} {Q : Option Value → w_I → w_I → Bool → Prop} {a1 a2 : Int} (k : w_T xs xl 207 2 [some (.ref 104), some (w_i a1), some (w_i a2), some (w_i a1), none, none] [] [] I J b Q) : w_T xs xl 207 0 [some (.ref 104), some (w_i a1), some (w_i a2), none, none, none] [] [] I J b Q := by
  refine w_iload_n (q := 1) rfl rfl rfl ?_
  refine w_istore_n (q := 2) (L' := [some (.ref 104), some (w_i a1), some (w_i a2), some (w_i a1), none, none]) (M' := []) rfl rfl rfl rfl rfl ?_
  exact k
theorem b207_2 {xs : Nat → Int32} {xl : Nat} {I J : w_I} {b : Bool} {Q : Option Value → w_I → w_I → Bool → Prop} {u1 u4 u5 : Option Value} {l2 l3 : Int} (k : ((-2147483648 ≤ l3 ∧ l3 < 2147483648) ∧ (-2147483648 ≤ l2 ∧ l2 < 2147483648) ∧ ((l2 ≤ l3 → Q (some (w_i 0)) I J b) ∧ (¬ l2 ≤ l3 → ((0 ≤ l3 ∧ l3 < 800) ∧ w_T xs xl 207 18 [some (.ref 104), u1, some (w_i l2), some (w_i l3), some (w_i (I 120 l3)), some (w_i 1)] [] [] I J b Q))))) : w_T xs xl 207 2 [some (.ref 104), u1, some (w_i l2), some (w_i l3), u4, u5] [] [] I J b Q := by
  refine w_iload_n (q := 3) rfl rfl rfl ?_
  refine w_iload_n (q := 4) rfl rfl rfl ?_
  obtain ⟨h1, h2, k⟩ := k
  refine w_cge (t := 62) (q := 7) rfl rfl rfl h1 h2 (fun c3 => ?_) (fun c3 => ?_)
  · replace k := k.1 c3
    refine w_iconst (q := 63) rfl rfl ?_
    refine w_iret rfl rfl k
  · replace k := k.2 c3
    refine w_aload_n (q := 8) rfl rfl rfl ?_
    refine w_gfr (q := 11) rfl rfl rfl rfl (j := 120) rfl ?_
    refine w_iload_n (q := 12) rfl rfl rfl ?_
    obtain ⟨h4, k⟩ := k
    refine w_iald (q := 13) (n := 800) (v := I 120 l3) rfl rfl rfl rfl rfl rfl h4 ?_
    refine w_istore (q := 15) (L' := [some (.ref 104), u1, some (w_i l2), some (w_i l3), some (w_i (I 120 l3)), u5]) (M' := []) rfl rfl rfl rfl rfl ?_
    refine w_iconst (q := 16) rfl rfl ?_
    refine w_istore (q := 18) (L' := [some (.ref 104), u1, some (w_i l2), some (w_i l3), some (w_i (I 120 l3)), some (w_i 1)]) (M' := []) rfl rfl rfl rfl rfl ?_
    exact k
theorem b207_18 {xs : Nat → Int32} {xl : Nat} {I J : w_I} {b : Bool} {Q : Option Value → w_I → w_I → Bool → Prop} {u1 : Option Value} {l2 l3 l4 l5 : Int} (k : ((-2147483648 ≤ l3 ∧ l3 < 2147483648) ∧ (-2147483648 ≤ l2 ∧ l2 < 2147483648) ∧ ((l2 ≤ l3 → ((-2147483648 ≤ l5 ∧ l5 < 2147483648) ∧ ((l5 = 0 → w_T xs xl 207 2 [some (.ref 104), u1, some (w_i l2), some (w_i l3), some (w_i l4), some (w_i l5)] [] [] I J b Q) ∧ (¬ l5 = 0 → Q (some (w_i 1)) I J b)))) ∧ (¬ l2 ≤ l3 → ((0 ≤ l3 ∧ l3 < 800) ∧ ((-2147483648 ≤ I 120 l3 ∧ I 120 l3 < 2147483648) ∧ (-2147483648 ≤ l4 ∧ l4 < 2147483648) ∧ ((¬ I 120 l3 = l4 → ((-2147483648 ≤ l5 ∧ l5 < 2147483648) ∧ ((l5 = 0 → w_T xs xl 207 2 [some (.ref 104), u1, some (w_i l2), some (w_i l3), some (w_i l4), some (w_i l5)] [] [] I J b Q) ∧ (¬ l5 = 0 → Q (some (w_i 1)) I J b)))) ∧ (I 120 l3 = l4 → ((-2147483648 ≤ l5 ∧ l5 < 2147483648) ∧ ((l5 = 0 → w_T xs xl 207 18 [some (.ref 104), u1, some (w_i l2), some (w_i (l3 + 1)), some (w_i l4), some (w_i l5)] [] [] I J b Q) ∧ (¬ l5 = 0 → w_C xs xl 206 [.ref 104, w_i l3] I J b (fun v Ic Jc bc => w_T xs xl 207 44 [some (.ref 104), u1, some (w_i l2), some (w_i l3), some (w_i l4), some (w_i l5)] [] (w_pv v []) Ic Jc bc Q)))))))))))) : w_T xs xl 207 18 [some (.ref 104), u1, some (w_i l2), some (w_i l3), some (w_i l4), some (w_i l5)] [] [] I J b Q := by
  refine w_iload_n (q := 19) rfl rfl rfl ?_
  refine w_iload_n (q := 20) rfl rfl rfl ?_
  obtain ⟨h1, h2, k⟩ := k
  refine w_cge (t := 52) (q := 23) rfl rfl rfl h1 h2 (fun c3 => ?_) (fun c3 => ?_)
  · replace k := k.1 c3
    refine w_iload (q := 54) rfl rfl rfl ?_
    obtain ⟨h4, k⟩ := k
    refine w_zeq (t := 59) (q := 57) rfl rfl rfl h4 (fun c5 => ?_) (fun c5 => ?_)
    · replace k := k.1 c5
      refine w_goto (t := 2) rfl rfl ?_
      exact k
    · replace k := k.2 c5
      refine w_iconst (q := 58) rfl rfl ?_
      refine w_iret rfl rfl k
  · replace k := k.2 c3
    refine w_aload_n (q := 24) rfl rfl rfl ?_
    refine w_gfr (q := 27) rfl rfl rfl rfl (j := 120) rfl ?_
    refine w_iload_n (q := 28) rfl rfl rfl ?_
    obtain ⟨h6, k⟩ := k
    refine w_iald (q := 29) (n := 800) (v := I 120 l3) rfl rfl rfl rfl rfl rfl h6 ?_
    refine w_iload (q := 31) rfl rfl rfl ?_
    obtain ⟨h7, h8, k⟩ := k
    refine w_cne (t := 52) (q := 34) rfl rfl rfl h7 h8 (fun c9 => ?_) (fun c9 => ?_)
    · replace k := k.1 c9
      refine w_iload (q := 54) rfl rfl rfl ?_
      obtain ⟨h10, k⟩ := k
      refine w_zeq (t := 59) (q := 57) rfl rfl rfl h10 (fun c11 => ?_) (fun c11 => ?_)
      · replace k := k.1 c11
        refine w_goto (t := 2) rfl rfl ?_
        exact k
      · replace k := k.2 c11
        refine w_iconst (q := 58) rfl rfl ?_
        refine w_iret rfl rfl k
    · replace k := k.2 c9
      refine w_iload (q := 36) rfl rfl rfl ?_
      obtain ⟨h12, k⟩ := k
      refine w_zeq (t := 46) (q := 39) rfl rfl rfl h12 (fun c13 => ?_) (fun c13 => ?_)
      · replace k := k.1 c13
        refine w_iinc (q := 49) (L' := [some (.ref 104), u1, some (w_i l2), some (w_i (l3 + 1)), some (w_i l4), some (w_i l5)]) (M' := []) rfl rfl rfl rfl rfl rfl ?_
        refine w_goto (t := 18) rfl rfl ?_
        exact k
      · replace k := k.2 c13
        refine w_aload_n (q := 40) rfl rfl rfl ?_
        refine w_iload_n (q := 41) rfl rfl rfl ?_
        refine w_callv (q := 44) rfl rfl rfl rfl rfl rfl ?_
        exact k
theorem b207_44 {xs : Nat → Int32} {xl : Nat} {I J : w_I} {b : Bool} {Q : Option Value → w_I → w_I → Bool → Prop} {u1 u5 : Option Value} {l2 l3 l4 s0 : Int} (k : w_T xs xl 207 18 [some (.ref 104), u1, some (w_i l2), some (w_i (l3 + 1)), some (w_i l4), some (w_i s0)] [] [] I J b Q) : w_T xs xl 207 44 [some (.ref 104), u1, some (w_i l2), some (w_i l3), some (w_i l4), u5] [] [w_i s0] I J b Q := by
  refine w_istore (q := 46) (L' := [some (.ref 104), u1, some (w_i l2), some (w_i l3), some (w_i l4), some (w_i s0)]) (M' := []) rfl rfl rfl rfl rfl ?_
  refine w_iinc (q := 49) (L' := [some (.ref 104), u1, some (w_i l2), some (w_i (l3 + 1)), some (w_i l4), some (w_i s0)]) (M' := []) rfl rfl rfl rfl rfl rfl ?_
  refine w_goto (t := 18) rfl rfl ?_
  exact k
theorem e208 {xs : Nat → Int32} {xl : Nat} {I J : w_I} {b : Bool} {Q : Option Value → w_I → w_I → Bool → Prop} {a1 a2 a3 : Int} (t : w_T xs xl 208 0 [some (.ref 104), some (w_i a1), some (w_i a2), some (w_i a3), none] [] [] I J b Q) : w_C xs xl 208 [.ref 104, w_i a1, w_i a2, w_i a3] I J b Q := w_en rfl t
theorem b208_0 {xs : Nat → Int32} {xl : Nat} {I J : w_I} {b : Bool} {Q : Option Value → w_I → w_I → Bool → Prop} {a1 a2 a3 : Int} (k : ((0 ≤ 11 + 2 * a1 ∧ 11 + 2 * a1 < 2800) ∧ ((-2147483648 ≤ I 110 (11 + 2 * a1) ∧ I 110 (11 + 2 * a1) < 2147483648) ∧ ((0 ≤ I 110 (11 + 2 * a1) → ((0 ≤ 11 + 2 * a1 + 1 ∧ 11 + 2 * a1 + 1 < 2800) ∧ w_C xs xl 205 [.ref 104, w_i (I 110 (11 + 2 * a1)), w_i (I 110 (11 + 2 * a1 + 1))] I J b (fun v Ic Jc bc => w_T xs xl 208 46 [some (.ref 104), some (w_i a1), some (w_i a2), some (w_i a3), none] [] (w_pv v []) Ic Jc bc Q))) ∧ (¬ 0 ≤ I 110 (11 + 2 * a1) → ((-2147483648 ≤ a2 ∧ a2 < 2147483648) ∧ ((0 ≤ a2 → ((-2147483648 ≤ a3 ∧ a3 < 2147483648) ∧ ((a2 ≤ a3 → Q (some (w_i a2)) I J b) ∧ (¬ a2 ≤ a3 → Q (some (w_i a3)) I J b)))) ∧ (¬ 0 ≤ a2 → Q (some (w_i 0)) I J b)))))))) : w_T xs xl 208 0 [some (.ref 104), some (w_i a1), some (w_i a2), some (w_i a3), none] [] [] I J b Q := by
  refine w_aload_n (q := 1) rfl rfl rfl ?_
  refine w_gfr (q := 4) rfl rfl rfl rfl (j := 110) rfl ?_
  refine w_bipush (q := 6) rfl rfl rfl ?_
  refine w_iconst (q := 7) rfl rfl ?_
  refine w_iload_n (q := 8) rfl rfl rfl ?_
  refine w_imul (q := 9) rfl rfl ?_
  refine w_iadd (q := 10) rfl rfl ?_
  obtain ⟨h1, k⟩ := k
  refine w_iald (q := 11) (n := 2800) (v := I 110 (11 + 2 * a1)) rfl rfl rfl rfl rfl rfl h1 ?_
  obtain ⟨h2, k⟩ := k
  refine w_zge (t := 18) (q := 14) rfl rfl rfl h2 (fun c3 => ?_) (fun c3 => ?_)
  · replace k := k.1 c3
    refine w_aload_n (q := 19) rfl rfl rfl ?_
    refine w_aload_n (q := 20) rfl rfl rfl ?_
    refine w_gfr (q := 23) rfl rfl rfl rfl (j := 110) rfl ?_
    refine w_bipush (q := 25) rfl rfl rfl ?_
    refine w_iconst (q := 26) rfl rfl ?_
    refine w_iload_n (q := 27) rfl rfl rfl ?_
    refine w_imul (q := 28) rfl rfl ?_
    refine w_iadd (q := 29) rfl rfl ?_
    refine w_iald (q := 30) (n := 2800) (v := I 110 (11 + 2 * a1)) rfl rfl rfl rfl rfl rfl h1 ?_
    refine w_aload_n (q := 31) rfl rfl rfl ?_
    refine w_gfr (q := 34) rfl rfl rfl rfl (j := 110) rfl ?_
    refine w_bipush (q := 36) rfl rfl rfl ?_
    refine w_iconst (q := 37) rfl rfl ?_
    refine w_iload_n (q := 38) rfl rfl rfl ?_
    refine w_imul (q := 39) rfl rfl ?_
    refine w_iadd (q := 40) rfl rfl ?_
    refine w_iconst (q := 41) rfl rfl ?_
    refine w_iadd (q := 42) rfl rfl ?_
    obtain ⟨h4, k⟩ := k
    refine w_iald (q := 43) (n := 2800) (v := I 110 (11 + 2 * a1 + 1)) rfl rfl rfl rfl rfl rfl h4 ?_
    refine w_callv (q := 46) rfl rfl rfl rfl rfl rfl ?_
    exact k
  · replace k := k.2 c3
    refine w_iload_n (q := 15) rfl rfl rfl ?_
    refine w_goto (t := 46) rfl rfl ?_
    refine w_istore (q := 48) (L' := [some (.ref 104), some (w_i a1), some (w_i a2), some (w_i a3), some (w_i a2)]) (M' := []) rfl rfl rfl rfl rfl ?_
    refine w_iload (q := 50) rfl rfl rfl ?_
    obtain ⟨h5, k⟩ := k
    refine w_zge (t := 57) (q := 53) rfl rfl rfl h5 (fun c6 => ?_) (fun c6 => ?_)
    · replace k := k.1 c6
      refine w_iload (q := 59) rfl rfl rfl ?_
      refine w_iload_n (q := 60) rfl rfl rfl ?_
      obtain ⟨h7, k⟩ := k
      refine w_cle (t := 67) (q := 63) rfl rfl rfl h5 h7 (fun c8 => ?_) (fun c8 => ?_)
      · replace k := k.1 c8
        refine w_iload (q := 69) rfl rfl rfl ?_
        exact w_iret rfl rfl k
      · replace k := k.2 c8
        refine w_iload_n (q := 64) rfl rfl rfl ?_
        refine w_goto (t := 69) rfl rfl ?_
        exact w_iret rfl rfl k
    · replace k := k.2 c6
      refine w_iconst (q := 54) rfl rfl ?_
      refine w_goto (t := 69) rfl rfl ?_
      exact w_iret rfl rfl k
theorem b208_46 {xs : Nat → Int32} {xl : Nat} {I J : w_I} {b : Bool} {Q : Option Value → w_I → w_I → Bool → Prop} {u1 u2 u4 : Option Value} {l3 s0 : Int} (k : ((-2147483648 ≤ s0 ∧ s0 < 2147483648) ∧ ((0 ≤ s0 → ((-2147483648 ≤ l3 ∧ l3 < 2147483648) ∧ ((s0 ≤ l3 → Q (some (w_i s0)) I J b) ∧ (¬ s0 ≤ l3 → Q (some (w_i l3)) I J b)))) ∧ (¬ 0 ≤ s0 → Q (some (w_i 0)) I J b)))) : w_T xs xl 208 46 [some (.ref 104), u1, u2, some (w_i l3), u4] [] [w_i s0] I J b Q := by
  refine w_istore (q := 48) (L' := [some (.ref 104), u1, u2, some (w_i l3), some (w_i s0)]) (M' := []) rfl rfl rfl rfl rfl ?_
  refine w_iload (q := 50) rfl rfl rfl ?_
  obtain ⟨h1, k⟩ := k
  refine w_zge (t := 57) (q := 53) rfl rfl rfl h1 (fun c2 => ?_) (fun c2 => ?_)
  · replace k := k.1 c2
    refine w_iload (q := 59) rfl rfl rfl ?_
    refine w_iload_n (q := 60) rfl rfl rfl ?_
    obtain ⟨h3, k⟩ := k
    refine w_cle (t := 67) (q := 63) rfl rfl rfl h1 h3 (fun c4 => ?_) (fun c4 => ?_)
    · replace k := k.1 c4
      refine w_iload (q := 69) rfl rfl rfl ?_
      exact w_iret rfl rfl k
    · replace k := k.2 c4
      refine w_iload_n (q := 64) rfl rfl rfl ?_
      refine w_goto (t := 69) rfl rfl ?_
      exact w_iret rfl rfl k
  · replace k := k.2 c2
    refine w_iconst (q := 54) rfl rfl ?_
    refine w_goto (t := 69) rfl rfl ?_
    exact w_iret rfl rfl k
theorem e209 {xs : Nat → Int32} {xl : Nat} {I J : w_I} {b : Bool} {Q : Option Value → w_I → w_I → Bool → Prop} {a0 a1 a2 : Int} (t : w_T xs xl 209 0 [some (w_i a0), some (w_i a1), some (w_i a2)] [] [] I J b Q) : w_C xs xl 209 [w_i a0, w_i a1, w_i a2] I J b Q := w_en rfl t
theorem b209_0 {xs : Nat → Int32} {xl : Nat} {I J : w_I} {b : Bool} {Q : Option Value → w_I → w_I → Bool → Prop} {a0 a1 a2 : Int} (k : ((-2147483648 ≤ a0 ∧ a0 < 2147483648) ∧ (-2147483648 ≤ a1 ∧ a1 < 2147483648) ∧ ((a0 < a1 → Q (some (w_i 0)) I J b) ∧ (¬ a0 < a1 → ((-2147483648 ≤ a2 ∧ a2 < 2147483648) ∧ ((a2 < a0 → Q (some (w_i 0)) I J b) ∧ (¬ a2 < a0 → Q (some (w_i 1)) I J b))))))) : w_T xs xl 209 0 [some (w_i a0), some (w_i a1), some (w_i a2)] [] [] I J b Q := by
  refine w_iload_n (q := 1) rfl rfl rfl ?_
  refine w_iload_n (q := 2) rfl rfl rfl ?_
  obtain ⟨h1, h2, k⟩ := k
  refine w_clt (t := 14) (q := 5) rfl rfl rfl h1 h2 (fun c3 => ?_) (fun c3 => ?_)
  · replace k := k.1 c3
    refine w_iconst (q := 15) rfl rfl ?_
    refine w_iret rfl rfl k
  · replace k := k.2 c3
    refine w_iload_n (q := 6) rfl rfl rfl ?_
    refine w_iload_n (q := 7) rfl rfl rfl ?_
    obtain ⟨h4, k⟩ := k
    refine w_cgt (t := 14) (q := 10) rfl rfl rfl h1 h4 (fun c5 => ?_) (fun c5 => ?_)
    · replace k := k.1 c5
      refine w_iconst (q := 15) rfl rfl ?_
      refine w_iret rfl rfl k
    · replace k := k.2 c5
      refine w_iconst (q := 11) rfl rfl ?_
      refine w_goto (t := 15) rfl rfl ?_
      refine w_iret rfl rfl k
theorem e210 {xs : Nat → Int32} {xl : Nat} {I J : w_I} {b : Bool} {Q : Option Value → w_I → w_I → Bool → Prop} {a1 : Int} (t : w_T xs xl 210 0 [some (.ref 104), some (w_i a1)] [] [] I J b Q) : w_C xs xl 210 [.ref 104, w_i a1] I J b Q := w_en rfl t
theorem b210_0 {xs : Nat → Int32} {xl : Nat} {I J : w_I} {b : Bool} {Q : Option Value → w_I → w_I → Bool → Prop} {a1 : Int} (k : ((-2147483648 ≤ a1 ∧ a1 < 2147483648) ∧ ((a1 < 0 → Q (some (w_i 0)) I J b) ∧ (¬ a1 < 0 → ((-2147483648 ≤ I 110 7 ∧ I 110 7 < 2147483648) ∧ ((I 110 7 ≤ a1 → Q (some (w_i 0)) I J b) ∧ (¬ I 110 7 ≤ a1 → ((0 ≤ 100 + 6 * a1 ∧ 100 + 6 * a1 < 2800) ∧ ((-2147483648 ≤ I 110 (100 + 6 * a1) ∧ I 110 (100 + 6 * a1) < 2147483648) ∧ ((¬ I 110 (100 + 6 * a1) = 1 → Q (some (w_i 0)) I J b) ∧ (I 110 (100 + 6 * a1) = 1 → Q (some (w_i 1)) I J b))))))))))) : w_T xs xl 210 0 [some (.ref 104), some (w_i a1)] [] [] I J b Q := by
  refine w_iload_n (q := 1) rfl rfl rfl ?_
  obtain ⟨h1, k⟩ := k
  refine w_zlt (t := 35) (q := 4) rfl rfl rfl h1 (fun c2 => ?_) (fun c2 => ?_)
  · replace k := k.1 c2
    refine w_iconst (q := 36) rfl rfl ?_
    refine w_iret rfl rfl k
  · replace k := k.2 c2
    refine w_iload_n (q := 5) rfl rfl rfl ?_
    refine w_aload_n (q := 6) rfl rfl rfl ?_
    refine w_gfr (q := 9) rfl rfl rfl rfl (j := 110) rfl ?_
    refine w_bipush (q := 11) rfl rfl rfl ?_
    refine w_iald (q := 12) (n := 2800) (v := I 110 7) rfl rfl rfl rfl rfl rfl (by decide) ?_
    obtain ⟨h3, k⟩ := k
    refine w_cge (t := 35) (q := 15) rfl rfl rfl h1 h3 (fun c4 => ?_) (fun c4 => ?_)
    · replace k := k.1 c4
      refine w_iconst (q := 36) rfl rfl ?_
      refine w_iret rfl rfl k
    · replace k := k.2 c4
      refine w_aload_n (q := 16) rfl rfl rfl ?_
      refine w_gfr (q := 19) rfl rfl rfl rfl (j := 110) rfl ?_
      refine w_bipush (q := 21) rfl rfl rfl ?_
      refine w_bipush (q := 23) rfl rfl rfl ?_
      refine w_iload_n (q := 24) rfl rfl rfl ?_
      refine w_imul (q := 25) rfl rfl ?_
      refine w_iadd (q := 26) rfl rfl ?_
      obtain ⟨h5, k⟩ := k
      refine w_iald (q := 27) (n := 2800) (v := I 110 (100 + 6 * a1)) rfl rfl rfl rfl rfl rfl h5 ?_
      refine w_iconst (q := 28) rfl rfl ?_
      obtain ⟨h6, k⟩ := k
      refine w_cne (t := 35) (q := 31) rfl rfl rfl h6 (by decide) (fun c7 => ?_) (fun c7 => ?_)
      · replace k := k.1 c7
        refine w_iconst (q := 36) rfl rfl ?_
        refine w_iret rfl rfl k
      · replace k := k.2 c7
        refine w_iconst (q := 32) rfl rfl ?_
        refine w_goto (t := 36) rfl rfl ?_
        refine w_iret rfl rfl k
theorem e211 {xs : Nat → Int32} {xl : Nat} {I J : w_I} {b : Bool} {Q : Option Value → w_I → w_I → Bool → Prop} {a1 : Int} (t : w_T xs xl 211 0 [some (.ref 104), some (w_i a1)] [] [] I J b Q) : w_C xs xl 211 [.ref 104, w_i a1] I J b Q := w_en rfl t
theorem b211_0 {xs : Nat → Int32} {xl : Nat} {I J : w_I} {b : Bool} {Q : Option Value → w_I → w_I → Bool → Prop} {a1 : Int} (k : ((-2147483648 ≤ a1 ∧ a1 < 2147483648) ∧ ((a1 < 0 → Q (some (w_i 0)) I J b) ∧ (¬ a1 < 0 → ((-2147483648 ≤ I 110 8 ∧ I 110 8 < 2147483648) ∧ ((I 110 8 ≤ a1 → Q (some (w_i 0)) I J b) ∧ (¬ I 110 8 ≤ a1 → ((0 ≤ 460 + 3 * a1 ∧ 460 + 3 * a1 < 2800) ∧ ((-2147483648 ≤ I 110 (460 + 3 * a1) ∧ I 110 (460 + 3 * a1) < 2147483648) ∧ ((¬ I 110 (460 + 3 * a1) = 1 → Q (some (w_i 0)) I J b) ∧ (I 110 (460 + 3 * a1) = 1 → Q (some (w_i 1)) I J b))))))))))) : w_T xs xl 211 0 [some (.ref 104), some (w_i a1)] [] [] I J b Q := by
  refine w_iload_n (q := 1) rfl rfl rfl ?_
  obtain ⟨h1, k⟩ := k
  refine w_zlt (t := 35) (q := 4) rfl rfl rfl h1 (fun c2 => ?_) (fun c2 => ?_)
  · replace k := k.1 c2
    refine w_iconst (q := 36) rfl rfl ?_
    refine w_iret rfl rfl k
  · replace k := k.2 c2
    refine w_iload_n (q := 5) rfl rfl rfl ?_
    refine w_aload_n (q := 6) rfl rfl rfl ?_
    refine w_gfr (q := 9) rfl rfl rfl rfl (j := 110) rfl ?_
    refine w_bipush (q := 11) rfl rfl rfl ?_
    refine w_iald (q := 12) (n := 2800) (v := I 110 8) rfl rfl rfl rfl rfl rfl (by decide) ?_
    obtain ⟨h3, k⟩ := k
    refine w_cge (t := 35) (q := 15) rfl rfl rfl h1 h3 (fun c4 => ?_) (fun c4 => ?_)
    · replace k := k.1 c4
      refine w_iconst (q := 36) rfl rfl ?_
      refine w_iret rfl rfl k
    · replace k := k.2 c4
      refine w_aload_n (q := 16) rfl rfl rfl ?_
      refine w_gfr (q := 19) rfl rfl rfl rfl (j := 110) rfl ?_
      refine w_sipush (q := 22) rfl rfl rfl ?_
      refine w_iconst (q := 23) rfl rfl ?_
      refine w_iload_n (q := 24) rfl rfl rfl ?_
      refine w_imul (q := 25) rfl rfl ?_
      refine w_iadd (q := 26) rfl rfl ?_
      obtain ⟨h5, k⟩ := k
      refine w_iald (q := 27) (n := 2800) (v := I 110 (460 + 3 * a1)) rfl rfl rfl rfl rfl rfl h5 ?_
      refine w_iconst (q := 28) rfl rfl ?_
      obtain ⟨h6, k⟩ := k
      refine w_cne (t := 35) (q := 31) rfl rfl rfl h6 (by decide) (fun c7 => ?_) (fun c7 => ?_)
      · replace k := k.1 c7
        refine w_iconst (q := 36) rfl rfl ?_
        refine w_iret rfl rfl k
      · replace k := k.2 c7
        refine w_iconst (q := 32) rfl rfl ?_
        refine w_goto (t := 36) rfl rfl ?_
        refine w_iret rfl rfl k
theorem e212 {xs : Nat → Int32} {xl : Nat} {I J : w_I} {b : Bool} {Q : Option Value → w_I → w_I → Bool → Prop} {a1 : Int} (t : w_T xs xl 212 0 [some (.ref 104), some (w_i a1)] [] [] I J b Q) : w_C xs xl 212 [.ref 104, w_i a1] I J b Q := w_en rfl t
theorem b212_0 {xs : Nat → Int32} {xl : Nat} {I J : w_I} {b : Bool} {Q : Option Value → w_I → w_I → Bool → Prop} {a1 : Int} (k : ((-2147483648 ≤ a1 ∧ a1 < 2147483648) ∧ ((a1 < 0 → Q (some (w_i 0)) I J b) ∧ (¬ a1 < 0 → ((-2147483648 ≤ I 110 0 ∧ I 110 0 < 2147483648) ∧ ((I 110 0 ≤ a1 → Q (some (w_i 0)) I J b) ∧ (¬ I 110 0 ≤ a1 → Q (some (w_i 1)) I J b))))))) : w_T xs xl 212 0 [some (.ref 104), some (w_i a1)] [] [] I J b Q := by
  refine w_iload_n (q := 1) rfl rfl rfl ?_
  obtain ⟨h1, k⟩ := k
  refine w_zlt (t := 18) (q := 4) rfl rfl rfl h1 (fun c2 => ?_) (fun c2 => ?_)
  · replace k := k.1 c2
    refine w_iconst (q := 19) rfl rfl ?_
    refine w_iret rfl rfl k
  · replace k := k.2 c2
    refine w_iload_n (q := 5) rfl rfl rfl ?_
    refine w_aload_n (q := 6) rfl rfl rfl ?_
    refine w_gfr (q := 9) rfl rfl rfl rfl (j := 110) rfl ?_
    refine w_iconst (q := 10) rfl rfl ?_
    refine w_iald (q := 11) (n := 2800) (v := I 110 0) rfl rfl rfl rfl rfl rfl (by decide) ?_
    obtain ⟨h3, k⟩ := k
    refine w_cge (t := 18) (q := 14) rfl rfl rfl h1 h3 (fun c4 => ?_) (fun c4 => ?_)
    · replace k := k.1 c4
      refine w_iconst (q := 19) rfl rfl ?_
      refine w_iret rfl rfl k
    · replace k := k.2 c4
      refine w_iconst (q := 15) rfl rfl ?_
      refine w_goto (t := 19) rfl rfl ?_
      refine w_iret rfl rfl k
theorem e213 {xs : Nat → Int32} {xl : Nat} {I J : w_I} {b : Bool} {Q : Option Value → w_I → w_I → Bool → Prop} {a1 : Int} (t : w_T xs xl 213 0 [some (.ref 104), some (w_i a1)] [] [] I J b Q) : w_C xs xl 213 [.ref 104, w_i a1] I J b Q := w_en rfl t
theorem b213_0 {xs : Nat → Int32} {xl : Nat} {I J : w_I} {b : Bool} {Q : Option Value → w_I → w_I → Bool → Prop} {a1 : Int} (k : ((0 ≤ 460 + 3 * a1 + 1 ∧ 460 + 3 * a1 + 1 < 2800) ∧ Q (some (w_i (I 110 (460 + 3 * a1 + 1)))) I J b)) : w_T xs xl 213 0 [some (.ref 104), some (w_i a1)] [] [] I J b Q := by
  refine w_aload_n (q := 1) rfl rfl rfl ?_
  refine w_gfr (q := 4) rfl rfl rfl rfl (j := 110) rfl ?_
  refine w_sipush (q := 7) rfl rfl rfl ?_
  refine w_iconst (q := 8) rfl rfl ?_
  refine w_iload_n (q := 9) rfl rfl rfl ?_
  refine w_imul (q := 10) rfl rfl ?_
  refine w_iadd (q := 11) rfl rfl ?_
  refine w_iconst (q := 12) rfl rfl ?_
  refine w_iadd (q := 13) rfl rfl ?_
  obtain ⟨h1, k⟩ := k
  refine w_iald (q := 14) (n := 2800) (v := I 110 (460 + 3 * a1 + 1)) rfl rfl rfl rfl rfl rfl h1 ?_
  exact w_iret rfl rfl k
theorem e214 {xs : Nat → Int32} {xl : Nat} {I J : w_I} {b : Bool} {Q : Option Value → w_I → w_I → Bool → Prop} {a1 : Int} (t : w_T xs xl 214 0 [some (.ref 104), some (w_i a1), none] [] [] I J b Q) : w_C xs xl 214 [.ref 104, w_i a1] I J b Q := w_en rfl t
theorem b214_0 {xs : Nat → Int32} {xl : Nat} {I J : w_I} {b : Bool} {Q : Option Value → w_I → w_I → Bool → Prop} {a1 : Int} (k : w_T xs xl 214 2 [some (.ref 104), some (w_i a1), some (w_i 0)] [] [] I J b Q) : w_T xs xl 214 0 [some (.ref 104), some (w_i a1), none] [] [] I J b Q := by
  refine w_iconst (q := 1) rfl rfl ?_
  refine w_istore_n (q := 2) (L' := [some (.ref 104), some (w_i a1), some (w_i 0)]) (M' := []) rfl rfl rfl rfl rfl ?_
  exact k
theorem b214_2 {xs : Nat → Int32} {xl : Nat} {I J : w_I} {b : Bool} {Q : Option Value → w_I → w_I → Bool → Prop} {l1 l2 : Int} (k : ((-2147483648 ≤ l2 ∧ l2 < 2147483648) ∧ (-2147483648 ≤ I 110 8 ∧ I 110 8 < 2147483648) ∧ ((I 110 8 ≤ l2 → Q (some (w_i (-2))) I J b) ∧ (¬ I 110 8 ≤ l2 → w_C xs xl 211 [.ref 104, w_i l2] I J b (fun v Ic Jc bc => w_T xs xl 214 18 [some (.ref 104), some (w_i l1), some (w_i l2)] [] (w_pv v []) Ic Jc bc Q))))) : w_T xs xl 214 2 [some (.ref 104), some (w_i l1), some (w_i l2)] [] [] I J b Q := by
  refine w_iload_n (q := 3) rfl rfl rfl ?_
  refine w_aload_n (q := 4) rfl rfl rfl ?_
  refine w_gfr (q := 7) rfl rfl rfl rfl (j := 110) rfl ?_
  refine w_bipush (q := 9) rfl rfl rfl ?_
  refine w_iald (q := 10) (n := 2800) (v := I 110 8) rfl rfl rfl rfl rfl rfl (by decide) ?_
  obtain ⟨h1, h2, k⟩ := k
  refine w_cge (t := 38) (q := 13) rfl rfl rfl h1 h2 (fun c3 => ?_) (fun c3 => ?_)
  · replace k := k.1 c3
    refine w_bipush (q := 40) rfl rfl rfl ?_
    exact w_iret rfl rfl k
  · replace k := k.2 c3
    refine w_aload_n (q := 14) rfl rfl rfl ?_
    refine w_iload_n (q := 15) rfl rfl rfl ?_
    refine w_callv (q := 18) rfl rfl rfl rfl rfl rfl ?_
    exact k
theorem b214_18 {xs : Nat → Int32} {xl : Nat} {I J : w_I} {b : Bool} {Q : Option Value → w_I → w_I → Bool → Prop} {l1 l2 s0 : Int} (k : ((-2147483648 ≤ s0 ∧ s0 < 2147483648) ∧ ((s0 = 0 → w_T xs xl 214 2 [some (.ref 104), some (w_i l1), some (w_i (l2 + 1))] [] [] I J b Q) ∧ (¬ s0 = 0 → w_C xs xl 213 [.ref 104, w_i l2] I J b (fun v Ic Jc bc => w_T xs xl 214 26 [some (.ref 104), some (w_i l1), some (w_i l2)] [] (w_pv v []) Ic Jc bc Q))))) : w_T xs xl 214 18 [some (.ref 104), some (w_i l1), some (w_i l2)] [] [w_i s0] I J b Q := by
  obtain ⟨h1, k⟩ := k
  refine w_zeq (t := 32) (q := 21) rfl rfl rfl h1 (fun c2 => ?_) (fun c2 => ?_)
  · replace k := k.1 c2
    refine w_iinc (q := 35) (L' := [some (.ref 104), some (w_i l1), some (w_i (l2 + 1))]) (M' := []) rfl rfl rfl rfl rfl rfl ?_
    refine w_goto (t := 2) rfl rfl ?_
    exact k
  · replace k := k.2 c2
    refine w_aload_n (q := 22) rfl rfl rfl ?_
    refine w_iload_n (q := 23) rfl rfl rfl ?_
    refine w_callv (q := 26) rfl rfl rfl rfl rfl rfl ?_
    exact k
theorem b214_26 {xs : Nat → Int32} {xl : Nat} {I J : w_I} {b : Bool} {Q : Option Value → w_I → w_I → Bool → Prop} {l1 l2 s0 : Int} (k : ((-2147483648 ≤ s0 ∧ s0 < 2147483648) ∧ (-2147483648 ≤ l1 ∧ l1 < 2147483648) ∧ ((¬ s0 = l1 → w_T xs xl 214 2 [some (.ref 104), some (w_i l1), some (w_i (l2 + 1))] [] [] I J b Q) ∧ (s0 = l1 → Q (some (w_i l2)) I J b)))) : w_T xs xl 214 26 [some (.ref 104), some (w_i l1), some (w_i l2)] [] [w_i s0] I J b Q := by
  refine w_iload_n (q := 27) rfl rfl rfl ?_
  obtain ⟨h1, h2, k⟩ := k
  refine w_cne (t := 32) (q := 30) rfl rfl rfl h1 h2 (fun c3 => ?_) (fun c3 => ?_)
  · replace k := k.1 c3
    refine w_iinc (q := 35) (L' := [some (.ref 104), some (w_i l1), some (w_i (l2 + 1))]) (M' := []) rfl rfl rfl rfl rfl rfl ?_
    refine w_goto (t := 2) rfl rfl ?_
    exact k
  · replace k := k.2 c3
    refine w_iload_n (q := 31) rfl rfl rfl ?_
    exact w_iret rfl rfl k
theorem e215 {xs : Nat → Int32} {xl : Nat} {I J : w_I} {b : Bool} {Q : Option Value → w_I → w_I → Bool → Prop} {a1 a2 : Int} (t : w_T xs xl 215 0 [some (.ref 104), some (w_i a1), some (w_i a2), none] [] [] I J b Q) : w_C xs xl 215 [.ref 104, w_i a1, w_i a2] I J b Q := w_en rfl t
theorem b215_0 {xs : Nat → Int32} {xl : Nat} {I J : w_I} {b : Bool} {Q : Option Value → w_I → w_I → Bool → Prop} {a1 a2 : Int} (k : ((-2147483648 ≤ a2 ∧ a2 < 2147483648) ∧ ((a2 = 0 → ((0 ≤ 100 + 6 * a1 + 2 ∧ 100 + 6 * a1 + 2 < 2800) ∧ ((0 ≤ 100 + 6 * a1 + 4 ∧ 100 + 6 * a1 + 4 < 2800) ∧ (((0 : Int) ≤ I 110 9 - I 110 (100 + 6 * a1 + 4) ∧ I 110 9 - I 110 (100 + 6 * a1 + 4) < 2147483648 ∧ (0 : Int) < 12 ∧ 12 < (2147483648 : Int)) ∧ Q (some (w_i (I 110 (100 + 6 * a1 + 2) + (I 110 9 - I 110 (100 + 6 * a1 + 4)) / 12))) I J b)))) ∧ (¬ a2 = 0 → ((0 ≤ 100 + 6 * a1 + 1 ∧ 100 + 6 * a1 + 1 < 2800) ∧ ((0 ≤ 100 + 6 * a1 + 4 ∧ 100 + 6 * a1 + 4 < 2800) ∧ (((0 : Int) ≤ I 110 9 - I 110 (100 + 6 * a1 + 4) ∧ I 110 9 - I 110 (100 + 6 * a1 + 4) < 2147483648 ∧ (0 : Int) < 12 ∧ 12 < (2147483648 : Int)) ∧ Q (some (w_i (I 110 (100 + 6 * a1 + 1) + (I 110 9 - I 110 (100 + 6 * a1 + 4)) / 12))) I J b))))))) : w_T xs xl 215 0 [some (.ref 104), some (w_i a1), some (w_i a2), none] [] [] I J b Q := by
  refine w_bipush (q := 2) rfl rfl rfl ?_
  refine w_bipush (q := 4) rfl rfl rfl ?_
  refine w_iload_n (q := 5) rfl rfl rfl ?_
  refine w_imul (q := 6) rfl rfl ?_
  refine w_iadd (q := 7) rfl rfl ?_
  refine w_istore_n (q := 8) (L' := [some (.ref 104), some (w_i a1), some (w_i a2), some (w_i (100 + 6 * a1))]) (M' := []) rfl rfl rfl rfl rfl ?_
  refine w_aload_n (q := 9) rfl rfl rfl ?_
  refine w_gfr (q := 12) rfl rfl rfl rfl (j := 110) rfl ?_
  refine w_iload_n (q := 13) rfl rfl rfl ?_
  refine w_iload_n (q := 14) rfl rfl rfl ?_
  obtain ⟨h1, k⟩ := k
  refine w_zeq (t := 21) (q := 17) rfl rfl rfl h1 (fun c2 => ?_) (fun c2 => ?_)
  · replace k := k.1 c2
    refine w_iconst (q := 22) rfl rfl ?_
    refine w_iadd (q := 23) rfl rfl ?_
    obtain ⟨h3, k⟩ := k
    refine w_iald (q := 24) (n := 2800) (v := I 110 (100 + 6 * a1 + 2)) rfl rfl rfl rfl rfl rfl h3 ?_
    refine w_aload_n (q := 25) rfl rfl rfl ?_
    refine w_gfr (q := 28) rfl rfl rfl rfl (j := 110) rfl ?_
    refine w_bipush (q := 30) rfl rfl rfl ?_
    refine w_iald (q := 31) (n := 2800) (v := I 110 9) rfl rfl rfl rfl rfl rfl (by decide) ?_
    refine w_aload_n (q := 32) rfl rfl rfl ?_
    refine w_gfr (q := 35) rfl rfl rfl rfl (j := 110) rfl ?_
    refine w_iload_n (q := 36) rfl rfl rfl ?_
    refine w_iconst (q := 37) rfl rfl ?_
    refine w_iadd (q := 38) rfl rfl ?_
    obtain ⟨h4, k⟩ := k
    refine w_iald (q := 39) (n := 2800) (v := I 110 (100 + 6 * a1 + 4)) rfl rfl rfl rfl rfl rfl h4 ?_
    refine w_isub (q := 40) rfl rfl ?_
    refine w_bipush (q := 42) rfl rfl rfl ?_
    obtain ⟨h5, k⟩ := k
    refine w_idiv (q := 43) rfl rfl h5 ?_
    refine w_iadd (q := 44) rfl rfl ?_
    exact w_iret rfl rfl k
  · replace k := k.2 c2
    refine w_iconst (q := 18) rfl rfl ?_
    refine w_goto (t := 22) rfl rfl ?_
    refine w_iadd (q := 23) rfl rfl ?_
    obtain ⟨h6, k⟩ := k
    refine w_iald (q := 24) (n := 2800) (v := I 110 (100 + 6 * a1 + 1)) rfl rfl rfl rfl rfl rfl h6 ?_
    refine w_aload_n (q := 25) rfl rfl rfl ?_
    refine w_gfr (q := 28) rfl rfl rfl rfl (j := 110) rfl ?_
    refine w_bipush (q := 30) rfl rfl rfl ?_
    refine w_iald (q := 31) (n := 2800) (v := I 110 9) rfl rfl rfl rfl rfl rfl (by decide) ?_
    refine w_aload_n (q := 32) rfl rfl rfl ?_
    refine w_gfr (q := 35) rfl rfl rfl rfl (j := 110) rfl ?_
    refine w_iload_n (q := 36) rfl rfl rfl ?_
    refine w_iconst (q := 37) rfl rfl ?_
    refine w_iadd (q := 38) rfl rfl ?_
    obtain ⟨h7, k⟩ := k
    refine w_iald (q := 39) (n := 2800) (v := I 110 (100 + 6 * a1 + 4)) rfl rfl rfl rfl rfl rfl h7 ?_
    refine w_isub (q := 40) rfl rfl ?_
    refine w_bipush (q := 42) rfl rfl rfl ?_
    obtain ⟨h8, k⟩ := k
    refine w_idiv (q := 43) rfl rfl h8 ?_
    refine w_iadd (q := 44) rfl rfl ?_
    exact w_iret rfl rfl k
theorem e216 {xs : Nat → Int32} {xl : Nat} {I J : w_I} {b : Bool} {Q : Option Value → w_I → w_I → Bool → Prop} {a1 a2 a3 a4 : Int} (t : w_T xs xl 216 0 [some (.ref 104), some (w_i a1), some (w_i a2), some (w_i a3), some (w_i a4), none, none, none, none] [] [] I J b Q) : w_C xs xl 216 [.ref 104, w_i a1, w_i a2, w_i a3, w_i a4] I J b Q := w_en rfl t
theorem b216_0 {xs : Nat → Int32} {xl : Nat} {I J : w_I} {b : Bool} {Q : Option Value → w_I → w_I → Bool → Prop} {a1 a2 a3 a4 : Int} (k : w_T xs xl 216 19 [some (.ref 104), some (w_i a1), some (w_i a2), some (w_i a3), some (w_i a4), some (w_i 0), some (w_i 0), some (w_i 0), none] [] [] (w_U (w_U I 104 33 0) 104 34 0) J b Q) : w_T xs xl 216 0 [some (.ref 104), some (w_i a1), some (w_i a2), some (w_i a3), some (w_i a4), none, none, none, none] [] [] I J b Q := by
  refine w_aload_n (q := 1) rfl rfl rfl ?_
  refine w_iconst (q := 2) rfl rfl ?_
  refine w_pfi (q := 5) (k' := 33) rfl rfl rfl rfl ?_
  refine w_aload_n (q := 6) rfl rfl rfl ?_
  refine w_iconst (q := 7) rfl rfl ?_
  refine w_pfi (q := 10) (k' := 34) rfl rfl rfl rfl ?_
  refine w_iconst (q := 11) rfl rfl ?_
  refine w_istore (q := 13) (L' := [some (.ref 104), some (w_i a1), some (w_i a2), some (w_i a3), some (w_i a4), some (w_i 0), none, none, none]) (M' := []) rfl rfl rfl rfl rfl ?_
  refine w_iconst (q := 14) rfl rfl ?_
  refine w_istore (q := 16) (L' := [some (.ref 104), some (w_i a1), some (w_i a2), some (w_i a3), some (w_i a4), some (w_i 0), some (w_i 0), none, none]) (M' := []) rfl rfl rfl rfl rfl ?_
  refine w_iconst (q := 17) rfl rfl ?_
  refine w_istore (q := 19) (L' := [some (.ref 104), some (w_i a1), some (w_i a2), some (w_i a3), some (w_i a4), some (w_i 0), some (w_i 0), some (w_i 0), none]) (M' := []) rfl rfl rfl rfl rfl ?_
  exact k
theorem b216_19 {xs : Nat → Int32} {xl : Nat} {I J : w_I} {b : Bool} {Q : Option Value → w_I → w_I → Bool → Prop} {l1 l2 l3 l4 l5 l6 l7 : Int} {u8 : Option Value} (k : ((-2147483648 ≤ l7 ∧ l7 < 2147483648) ∧ (-2147483648 ≤ I 110 7 ∧ I 110 7 < 2147483648) ∧ ((I 110 7 ≤ l7 → ((-2147483648 ≤ l4 ∧ l4 < 2147483648) ∧ ((l4 = 0 → Q none (w_U I 104 35 l6) J b) ∧ (¬ l4 = 0 → ((-2147483648 ≤ I 104 33 ∧ I 104 33 < 2147483648) ∧ ((¬ I 104 33 = 0 → (((0 : Int) ≤ l5 ∧ l5 < 2147483648 ∧ (0 : Int) < I 104 33 ∧ I 104 33 < (2147483648 : Int)) ∧ Q none (w_U I 104 35 (l5 / I 104 33)) J b)) ∧ (I 104 33 = 0 → Q none (w_U I 104 35 l6) J b))))))) ∧ (¬ I 110 7 ≤ l7 → w_C xs xl 210 [.ref 104, w_i l7] I J b (fun v Ic Jc bc => w_T xs xl 216 37 [some (.ref 104), some (w_i l1), some (w_i l2), some (w_i l3), some (w_i l4), some (w_i l5), some (w_i l6), some (w_i l7), u8] [] (w_pv v []) Ic Jc bc Q))))) : w_T xs xl 216 19 [some (.ref 104), some (w_i l1), some (w_i l2), some (w_i l3), some (w_i l4), some (w_i l5), some (w_i l6), some (w_i l7), u8] [] [] I J b Q := by
  refine w_iload (q := 21) rfl rfl rfl ?_
  refine w_aload_n (q := 22) rfl rfl rfl ?_
  refine w_gfr (q := 25) rfl rfl rfl rfl (j := 110) rfl ?_
  refine w_bipush (q := 27) rfl rfl rfl ?_
  refine w_iald (q := 28) (n := 2800) (v := I 110 7) rfl rfl rfl rfl rfl rfl (by decide) ?_
  obtain ⟨h1, h2, k⟩ := k
  refine w_cge (t := 148) (q := 31) rfl rfl rfl h1 h2 (fun c3 => ?_) (fun c3 => ?_)
  · replace k := k.1 c3
    refine w_aload_n (q := 149) rfl rfl rfl ?_
    refine w_iload (q := 151) rfl rfl rfl ?_
    obtain ⟨h4, k⟩ := k
    refine w_zeq (t := 161) (q := 154) rfl rfl rfl h4 (fun c5 => ?_) (fun c5 => ?_)
    · replace k := k.1 c5
      refine w_iload (q := 163) rfl rfl rfl ?_
      refine w_goto (t := 173) rfl rfl ?_
      refine w_pfi (q := 176) (k' := 35) rfl rfl rfl rfl ?_
      exact w_vret rfl k
    · replace k := k.2 c5
      refine w_aload_n (q := 155) rfl rfl rfl ?_
      refine w_gfi (q := 158) (k' := 33) (v := I 104 33) rfl rfl rfl rfl rfl rfl rfl ?_
      obtain ⟨h6, k⟩ := k
      refine w_zne (t := 166) (q := 161) rfl rfl rfl h6 (fun c7 => ?_) (fun c7 => ?_)
      · replace k := k.1 c7
        refine w_iload (q := 168) rfl rfl rfl ?_
        refine w_aload_n (q := 169) rfl rfl rfl ?_
        refine w_gfi (q := 172) (k' := 33) (v := I 104 33) rfl rfl rfl rfl rfl rfl rfl ?_
        obtain ⟨h8, k⟩ := k
        refine w_idiv (q := 173) rfl rfl h8 ?_
        refine w_pfi (q := 176) (k' := 35) rfl rfl rfl rfl ?_
        exact w_vret rfl k
      · replace k := k.2 c7
        refine w_iload (q := 163) rfl rfl rfl ?_
        refine w_goto (t := 173) rfl rfl ?_
        refine w_pfi (q := 176) (k' := 35) rfl rfl rfl rfl ?_
        exact w_vret rfl k
  · replace k := k.2 c3
    refine w_aload_n (q := 32) rfl rfl rfl ?_
    refine w_iload (q := 34) rfl rfl rfl ?_
    refine w_callv (q := 37) rfl rfl rfl rfl rfl rfl ?_
    exact k
theorem b216_37 {xs : Nat → Int32} {xl : Nat} {I J : w_I} {b : Bool} {Q : Option Value → w_I → w_I → Bool → Prop} {l1 l2 l3 l4 l5 l6 l7 s0 : Int} {u8 : Option Value} (k : ((-2147483648 ≤ s0 ∧ s0 < 2147483648) ∧ ((s0 = 0 → w_T xs xl 216 19 [some (.ref 104), some (w_i l1), some (w_i l2), some (w_i l3), some (w_i l4), some (w_i l5), some (w_i l6), some (w_i (l7 + 1)), u8] [] [] I J b Q) ∧ (¬ s0 = 0 → ((0 ≤ 100 + 6 * l7 + 5 ∧ 100 + 6 * l7 + 5 < 2800) ∧ ((-2147483648 ≤ I 110 (100 + 6 * l7 + 5) ∧ I 110 (100 + 6 * l7 + 5) < 2147483648) ∧ (-2147483648 ≤ l1 ∧ l1 < 2147483648) ∧ ((I 110 (100 + 6 * l7 + 5) = l1 → ((0 ≤ 100 + 6 * l7 + 3 ∧ 100 + 6 * l7 + 3 < 2800) ∧ w_C xs xl 215 [.ref 104, w_i l7, w_i l3] (w_U (w_U I 104 33 (I 104 33 + 1)) 104 34 (I 104 34 + I 110 (100 + 6 * l7 + 3))) J b (fun v Ic Jc bc => w_T xs xl 216 122 [some (.ref 104), some (w_i l1), some (w_i l2), some (w_i l3), some (w_i l4), some (w_i l5), some (w_i l6), some (w_i l7), u8] [] (w_pv v []) Ic Jc bc Q))) ∧ (¬ I 110 (100 + 6 * l7 + 5) = l1 → ((-2147483648 ≤ l2 ∧ l2 < 2147483648) ∧ ((I 110 (100 + 6 * l7 + 5) = l2 → ((0 ≤ 100 + 6 * l7 + 3 ∧ 100 + 6 * l7 + 3 < 2800) ∧ w_C xs xl 215 [.ref 104, w_i l7, w_i l3] (w_U (w_U I 104 33 (I 104 33 + 1)) 104 34 (I 104 34 + I 110 (100 + 6 * l7 + 3))) J b (fun v Ic Jc bc => w_T xs xl 216 122 [some (.ref 104), some (w_i l1), some (w_i l2), some (w_i l3), some (w_i l4), some (w_i l5), some (w_i l6), some (w_i l7), u8] [] (w_pv v []) Ic Jc bc Q))) ∧ (¬ I 110 (100 + 6 * l7 + 5) = l2 → w_T xs xl 216 19 [some (.ref 104), some (w_i l1), some (w_i l2), some (w_i l3), some (w_i l4), some (w_i l5), some (w_i l6), some (w_i (l7 + 1)), u8] [] [] I J b Q))))))))))) : w_T xs xl 216 37 [some (.ref 104), some (w_i l1), some (w_i l2), some (w_i l3), some (w_i l4), some (w_i l5), some (w_i l6), some (w_i l7), u8] [] [w_i s0] I J b Q := by
  obtain ⟨h1, k⟩ := k
  refine w_zeq (t := 142) (q := 40) rfl rfl rfl h1 (fun c2 => ?_) (fun c2 => ?_)
  · replace k := k.1 c2
    refine w_iinc (q := 145) (L' := [some (.ref 104), some (w_i l1), some (w_i l2), some (w_i l3), some (w_i l4), some (w_i l5), some (w_i l6), some (w_i (l7 + 1)), u8]) (M' := []) rfl rfl rfl rfl rfl rfl ?_
    refine w_goto (t := 19) rfl rfl ?_
    exact k
  · replace k := k.2 c2
    refine w_aload_n (q := 41) rfl rfl rfl ?_
    refine w_gfr (q := 44) rfl rfl rfl rfl (j := 110) rfl ?_
    refine w_bipush (q := 46) rfl rfl rfl ?_
    refine w_bipush (q := 48) rfl rfl rfl ?_
    refine w_iload (q := 50) rfl rfl rfl ?_
    refine w_imul (q := 51) rfl rfl ?_
    refine w_iadd (q := 52) rfl rfl ?_
    refine w_iconst (q := 53) rfl rfl ?_
    refine w_iadd (q := 54) rfl rfl ?_
    obtain ⟨h3, k⟩ := k
    refine w_iald (q := 55) (n := 2800) (v := I 110 (100 + 6 * l7 + 5)) rfl rfl rfl rfl rfl rfl h3 ?_
    refine w_iload_n (q := 56) rfl rfl rfl ?_
    obtain ⟨h4, h5, k⟩ := k
    refine w_ceq (t := 81) (q := 59) rfl rfl rfl h4 h5 (fun c6 => ?_) (fun c6 => ?_)
    · replace k := k.1 c6
      refine w_aload_n (q := 82) rfl rfl rfl ?_
      refine w_dup (q := 83) rfl rfl rfl ?_
      refine w_gfi (q := 86) (k' := 33) (v := I 104 33) rfl rfl rfl rfl rfl rfl rfl ?_
      refine w_iconst (q := 87) rfl rfl ?_
      refine w_iadd (q := 88) rfl rfl ?_
      refine w_pfi (q := 91) (k' := 33) rfl rfl rfl rfl ?_
      refine w_aload_n (q := 92) rfl rfl rfl ?_
      refine w_dup (q := 93) rfl rfl rfl ?_
      refine w_gfi (q := 96) (k' := 34) (v := I 104 34) rfl rfl rfl rfl rfl rfl rfl ?_
      refine w_aload_n (q := 97) rfl rfl rfl ?_
      refine w_gfr (q := 100) rfl rfl rfl rfl (j := 110) rfl ?_
      refine w_bipush (q := 102) rfl rfl rfl ?_
      refine w_bipush (q := 104) rfl rfl rfl ?_
      refine w_iload (q := 106) rfl rfl rfl ?_
      refine w_imul (q := 107) rfl rfl ?_
      refine w_iadd (q := 108) rfl rfl ?_
      refine w_iconst (q := 109) rfl rfl ?_
      refine w_iadd (q := 110) rfl rfl ?_
      obtain ⟨h7, k⟩ := k
      refine w_iald (q := 111) (n := 2800) (v := I 110 (100 + 6 * l7 + 3)) rfl rfl rfl rfl rfl rfl h7 ?_
      refine w_iadd (q := 112) rfl rfl ?_
      refine w_pfi (q := 115) (k' := 34) rfl rfl rfl rfl ?_
      refine w_aload_n (q := 116) rfl rfl rfl ?_
      refine w_iload (q := 118) rfl rfl rfl ?_
      refine w_iload_n (q := 119) rfl rfl rfl ?_
      refine w_callv (q := 122) rfl rfl rfl rfl rfl rfl ?_
      exact k
    · replace k := k.2 c6
      refine w_aload_n (q := 60) rfl rfl rfl ?_
      refine w_gfr (q := 63) rfl rfl rfl rfl (j := 110) rfl ?_
      refine w_bipush (q := 65) rfl rfl rfl ?_
      refine w_bipush (q := 67) rfl rfl rfl ?_
      refine w_iload (q := 69) rfl rfl rfl ?_
      refine w_imul (q := 70) rfl rfl ?_
      refine w_iadd (q := 71) rfl rfl ?_
      refine w_iconst (q := 72) rfl rfl ?_
      refine w_iadd (q := 73) rfl rfl ?_
      refine w_iald (q := 74) (n := 2800) (v := I 110 (100 + 6 * l7 + 5)) rfl rfl rfl rfl rfl rfl h3 ?_
      refine w_iload_n (q := 75) rfl rfl rfl ?_
      obtain ⟨h8, k⟩ := k
      refine w_ceq (t := 81) (q := 78) rfl rfl rfl h4 h8 (fun c9 => ?_) (fun c9 => ?_)
      · replace k := k.1 c9
        refine w_aload_n (q := 82) rfl rfl rfl ?_
        refine w_dup (q := 83) rfl rfl rfl ?_
        refine w_gfi (q := 86) (k' := 33) (v := I 104 33) rfl rfl rfl rfl rfl rfl rfl ?_
        refine w_iconst (q := 87) rfl rfl ?_
        refine w_iadd (q := 88) rfl rfl ?_
        refine w_pfi (q := 91) (k' := 33) rfl rfl rfl rfl ?_
        refine w_aload_n (q := 92) rfl rfl rfl ?_
        refine w_dup (q := 93) rfl rfl rfl ?_
        refine w_gfi (q := 96) (k' := 34) (v := I 104 34) rfl rfl rfl rfl rfl rfl rfl ?_
        refine w_aload_n (q := 97) rfl rfl rfl ?_
        refine w_gfr (q := 100) rfl rfl rfl rfl (j := 110) rfl ?_
        refine w_bipush (q := 102) rfl rfl rfl ?_
        refine w_bipush (q := 104) rfl rfl rfl ?_
        refine w_iload (q := 106) rfl rfl rfl ?_
        refine w_imul (q := 107) rfl rfl ?_
        refine w_iadd (q := 108) rfl rfl ?_
        refine w_iconst (q := 109) rfl rfl ?_
        refine w_iadd (q := 110) rfl rfl ?_
        obtain ⟨h10, k⟩ := k
        refine w_iald (q := 111) (n := 2800) (v := I 110 (100 + 6 * l7 + 3)) rfl rfl rfl rfl rfl rfl h10 ?_
        refine w_iadd (q := 112) rfl rfl ?_
        refine w_pfi (q := 115) (k' := 34) rfl rfl rfl rfl ?_
        refine w_aload_n (q := 116) rfl rfl rfl ?_
        refine w_iload (q := 118) rfl rfl rfl ?_
        refine w_iload_n (q := 119) rfl rfl rfl ?_
        refine w_callv (q := 122) rfl rfl rfl rfl rfl rfl ?_
        exact k
      · replace k := k.2 c9
        refine w_goto (t := 142) rfl rfl ?_
        refine w_iinc (q := 145) (L' := [some (.ref 104), some (w_i l1), some (w_i l2), some (w_i l3), some (w_i l4), some (w_i l5), some (w_i l6), some (w_i (l7 + 1)), u8]) (M' := []) rfl rfl rfl rfl rfl rfl ?_
        refine w_goto (t := 19) rfl rfl ?_
        exact k
theorem b216_122 {xs : Nat → Int32} {xl : Nat} {I J : w_I} {b : Bool} {Q : Option Value → w_I → w_I → Bool → Prop} {l1 l2 l3 l4 l5 l6 l7 s0 : Int} {u8 : Option Value} (k : ((-2147483648 ≤ s0 ∧ s0 < 2147483648) ∧ (-2147483648 ≤ l6 ∧ l6 < 2147483648) ∧ ((s0 ≤ l6 → w_T xs xl 216 19 [some (.ref 104), some (w_i l1), some (w_i l2), some (w_i l3), some (w_i l4), some (w_i (l5 + s0)), some (w_i l6), some (w_i (l7 + 1)), some (w_i s0)] [] [] I J b Q) ∧ (¬ s0 ≤ l6 → w_T xs xl 216 19 [some (.ref 104), some (w_i l1), some (w_i l2), some (w_i l3), some (w_i l4), some (w_i (l5 + s0)), some (w_i s0), some (w_i (l7 + 1)), some (w_i s0)] [] [] I J b Q)))) : w_T xs xl 216 122 [some (.ref 104), some (w_i l1), some (w_i l2), some (w_i l3), some (w_i l4), some (w_i l5), some (w_i l6), some (w_i l7), u8] [] [w_i s0] I J b Q := by
  refine w_istore (q := 124) (L' := [some (.ref 104), some (w_i l1), some (w_i l2), some (w_i l3), some (w_i l4), some (w_i l5), some (w_i l6), some (w_i l7), some (w_i s0)]) (M' := []) rfl rfl rfl rfl rfl ?_
  refine w_iload (q := 126) rfl rfl rfl ?_
  refine w_iload (q := 128) rfl rfl rfl ?_
  refine w_iadd (q := 129) rfl rfl ?_
  refine w_istore (q := 131) (L' := [some (.ref 104), some (w_i l1), some (w_i l2), some (w_i l3), some (w_i l4), some (w_i (l5 + s0)), some (w_i l6), some (w_i l7), some (w_i s0)]) (M' := []) rfl rfl rfl rfl rfl ?_
  refine w_iload (q := 133) rfl rfl rfl ?_
  refine w_iload (q := 135) rfl rfl rfl ?_
  obtain ⟨h1, h2, k⟩ := k
  refine w_cle (t := 142) (q := 138) rfl rfl rfl h1 h2 (fun c3 => ?_) (fun c3 => ?_)
  · replace k := k.1 c3
    refine w_iinc (q := 145) (L' := [some (.ref 104), some (w_i l1), some (w_i l2), some (w_i l3), some (w_i l4), some (w_i (l5 + s0)), some (w_i l6), some (w_i (l7 + 1)), some (w_i s0)]) (M' := []) rfl rfl rfl rfl rfl rfl ?_
    refine w_goto (t := 19) rfl rfl ?_
    exact k
  · replace k := k.2 c3
    refine w_iload (q := 140) rfl rfl rfl ?_
    refine w_istore (q := 142) (L' := [some (.ref 104), some (w_i l1), some (w_i l2), some (w_i l3), some (w_i l4), some (w_i (l5 + s0)), some (w_i s0), some (w_i l7), some (w_i s0)]) (M' := []) rfl rfl rfl rfl rfl ?_
    refine w_iinc (q := 145) (L' := [some (.ref 104), some (w_i l1), some (w_i l2), some (w_i l3), some (w_i l4), some (w_i (l5 + s0)), some (w_i s0), some (w_i (l7 + 1)), some (w_i s0)]) (M' := []) rfl rfl rfl rfl rfl rfl ?_
    refine w_goto (t := 19) rfl rfl ?_
    exact k
theorem e217 {xs : Nat → Int32} {xl : Nat} {I J : w_I} {b : Bool} {Q : Option Value → w_I → w_I → Bool → Prop} {a1 : Int} (t : w_T xs xl 217 0 [some (.ref 104), some (w_i a1)] [] [] I J b Q) : w_C xs xl 217 [.ref 104, w_i a1] I J b Q := w_en rfl t
theorem b217_0 {xs : Nat → Int32} {xl : Nat} {I J : w_I} {b : Bool} {Q : Option Value → w_I → w_I → Bool → Prop} {a1 : Int} (k : w_C xs xl 216 [.ref 104, w_i a1, w_i (-1), w_i 0, w_i (I 110 3)] I J b (fun v Ic Jc bc => w_T xs xl 217 13 [some (.ref 104), some (w_i a1)] [] (w_pv v []) Ic Jc bc Q)) : w_T xs xl 217 0 [some (.ref 104), some (w_i a1)] [] [] I J b Q := by
  refine w_aload_n (q := 1) rfl rfl rfl ?_
  refine w_iload_n (q := 2) rfl rfl rfl ?_
  refine w_iconst (q := 3) rfl rfl ?_
  refine w_iconst (q := 4) rfl rfl ?_
  refine w_aload_n (q := 5) rfl rfl rfl ?_
  refine w_gfr (q := 8) rfl rfl rfl rfl (j := 110) rfl ?_
  refine w_iconst (q := 9) rfl rfl ?_
  refine w_iald (q := 10) (n := 2800) (v := I 110 3) rfl rfl rfl rfl rfl rfl (by decide) ?_
  refine w_callv (q := 13) rfl rfl rfl rfl rfl rfl ?_
  exact k
theorem b217_13 {xs : Nat → Int32} {xl : Nat} {I J : w_I} {b : Bool} {Q : Option Value → w_I → w_I → Bool → Prop} {u1 : Option Value} (k : Q none I J b) : w_T xs xl 217 13 [some (.ref 104), u1] [] [] I J b Q := by
  exact w_vret rfl k
theorem e218 {xs : Nat → Int32} {xl : Nat} {I J : w_I} {b : Bool} {Q : Option Value → w_I → w_I → Bool → Prop} {a1 : Int} (t : w_T xs xl 218 0 [some (.ref 104), some (w_i a1)] [] [] I J b Q) : w_C xs xl 218 [.ref 104, w_i a1] I J b Q := w_en rfl t
theorem b218_0 {xs : Nat → Int32} {xl : Nat} {I J : w_I} {b : Bool} {Q : Option Value → w_I → w_I → Bool → Prop} {a1 : Int} (k : w_C xs xl 217 [.ref 104, w_i a1] I J b (fun v Ic Jc bc => w_T xs xl 218 5 [some (.ref 104), some (w_i a1)] [] (w_pv v []) Ic Jc bc Q)) : w_T xs xl 218 0 [some (.ref 104), some (w_i a1)] [] [] I J b Q := by
  refine w_aload_n (q := 1) rfl rfl rfl ?_
  refine w_iload_n (q := 2) rfl rfl rfl ?_
  refine w_callv (q := 5) rfl rfl rfl rfl rfl rfl ?_
  exact k
theorem b218_5 {xs : Nat → Int32} {xl : Nat} {I J : w_I} {b : Bool} {Q : Option Value → w_I → w_I → Bool → Prop} {u1 : Option Value} (k : (((0 : Int) ≤ I 104 35 ∧ I 104 35 < 2147483648 ∧ (0 : Int) < I 110 1 ∧ I 110 1 < (2147483648 : Int)) ∧ Q (some (w_i (I 104 35 / I 110 1))) I J b)) : w_T xs xl 218 5 [some (.ref 104), u1] [] [] I J b Q := by
  refine w_aload_n (q := 6) rfl rfl rfl ?_
  refine w_gfi (q := 9) (k' := 35) (v := I 104 35) rfl rfl rfl rfl rfl rfl rfl ?_
  refine w_aload_n (q := 10) rfl rfl rfl ?_
  refine w_gfr (q := 13) rfl rfl rfl rfl (j := 110) rfl ?_
  refine w_iconst (q := 14) rfl rfl ?_
  refine w_iald (q := 15) (n := 2800) (v := I 110 1) rfl rfl rfl rfl rfl rfl (by decide) ?_
  obtain ⟨h1, k⟩ := k
  refine w_idiv (q := 16) rfl rfl h1 ?_
  exact w_iret rfl rfl k
theorem e219 {xs : Nat → Int32} {xl : Nat} {I J : w_I} {b : Bool} {Q : Option Value → w_I → w_I → Bool → Prop} {a1 a2 : Int} (t : w_T xs xl 219 0 [some (.ref 104), some (w_i a1), some (w_i a2)] [] [] I J b Q) : w_C xs xl 219 [.ref 104, w_i a1, w_i a2] I J b Q := w_en rfl t
theorem b219_0 {xs : Nat → Int32} {xl : Nat} {I J : w_I} {b : Bool} {Q : Option Value → w_I → w_I → Bool → Prop} {a1 a2 : Int} (k : w_C xs xl 212 [.ref 104, w_i a1] I J b (fun v Ic Jc bc => w_T xs xl 219 5 [some (.ref 104), some (w_i a1), some (w_i a2)] [] (w_pv v []) Ic Jc bc Q)) : w_T xs xl 219 0 [some (.ref 104), some (w_i a1), some (w_i a2)] [] [] I J b Q := by
  refine w_aload_n (q := 1) rfl rfl rfl ?_
  refine w_iload_n (q := 2) rfl rfl rfl ?_
  refine w_callv (q := 5) rfl rfl rfl rfl rfl rfl ?_
  exact k
theorem b219_5 {xs : Nat → Int32} {xl : Nat} {I J : w_I} {b : Bool} {Q : Option Value → w_I → w_I → Bool → Prop} {l1 l2 s0 : Int} (k : ((-2147483648 ≤ s0 ∧ s0 < 2147483648) ∧ ((¬ s0 = 0 → ((-2147483648 ≤ l2 ∧ l2 < 2147483648) ∧ ((¬ l2 = 0 → ((¬ l2 = 1 → ((¬ l2 = 2 → Q (some (w_i (-1))) I J b) ∧ (l2 = 2 → w_C xs xl 214 [.ref 104, w_i l1] I J b (fun v Ic Jc bc => w_T xs xl 219 53 [some (.ref 104), some (w_i l1), some (w_i l2)] [] (w_pv v []) Ic Jc bc Q)))) ∧ (l2 = 1 → ((0 ≤ 50 + l1 ∧ 50 + l1 < 2800) ∧ Q (some (w_i (I 110 (50 + l1)))) I J b)))) ∧ (l2 = 0 → ((0 ≤ 20 + l1 ∧ 20 + l1 < 2800) ∧ Q (some (w_i (I 110 (20 + l1)))) I J b))))) ∧ (s0 = 0 → Q (some (w_i (-1))) I J b)))) : w_T xs xl 219 5 [some (.ref 104), some (w_i l1), some (w_i l2)] [] [w_i s0] I J b Q := by
  obtain ⟨h1, k⟩ := k
  refine w_zne (t := 10) (q := 8) rfl rfl rfl h1 (fun c2 => ?_) (fun c2 => ?_)
  · replace k := k.1 c2
    refine w_iload_n (q := 11) rfl rfl rfl ?_
    obtain ⟨h3, k⟩ := k
    refine w_zne (t := 26) (q := 14) rfl rfl rfl h3 (fun c4 => ?_) (fun c4 => ?_)
    · replace k := k.1 c4
      refine w_iload_n (q := 27) rfl rfl rfl ?_
      refine w_iconst (q := 28) rfl rfl ?_
      refine w_cne (t := 43) (q := 31) rfl rfl rfl h3 (by decide) (fun c5 => ?_) (fun c5 => ?_)
      · replace k := k.1 c5
        refine w_iload_n (q := 44) rfl rfl rfl ?_
        refine w_iconst (q := 45) rfl rfl ?_
        refine w_cne (t := 56) (q := 48) rfl rfl rfl h3 (by decide) (fun c6 => ?_) (fun c6 => ?_)
        · replace k := k.1 c6
          refine w_iconst (q := 57) rfl rfl ?_
          exact w_iret rfl rfl k
        · replace k := k.2 c6
          refine w_aload_n (q := 49) rfl rfl rfl ?_
          refine w_iload_n (q := 50) rfl rfl rfl ?_
          refine w_callv (q := 53) rfl rfl rfl rfl rfl rfl ?_
          exact k
      · replace k := k.2 c5
        refine w_aload_n (q := 32) rfl rfl rfl ?_
        refine w_gfr (q := 35) rfl rfl rfl rfl (j := 110) rfl ?_
        refine w_bipush (q := 37) rfl rfl rfl ?_
        refine w_iload_n (q := 38) rfl rfl rfl ?_
        refine w_iadd (q := 39) rfl rfl ?_
        obtain ⟨h7, k⟩ := k
        refine w_iald (q := 40) (n := 2800) (v := I 110 (50 + l1)) rfl rfl rfl rfl rfl rfl h7 ?_
        refine w_goto (t := 57) rfl rfl ?_
        exact w_iret rfl rfl k
    · replace k := k.2 c4
      refine w_aload_n (q := 15) rfl rfl rfl ?_
      refine w_gfr (q := 18) rfl rfl rfl rfl (j := 110) rfl ?_
      refine w_bipush (q := 20) rfl rfl rfl ?_
      refine w_iload_n (q := 21) rfl rfl rfl ?_
      refine w_iadd (q := 22) rfl rfl ?_
      obtain ⟨h8, k⟩ := k
      refine w_iald (q := 23) (n := 2800) (v := I 110 (20 + l1)) rfl rfl rfl rfl rfl rfl h8 ?_
      refine w_goto (t := 57) rfl rfl ?_
      exact w_iret rfl rfl k
  · replace k := k.2 c2
    refine w_iconst (q := 9) rfl rfl ?_
    exact w_iret rfl rfl k
theorem b219_53 {xs : Nat → Int32} {xl : Nat} {I J : w_I} {b : Bool} {Q : Option Value → w_I → w_I → Bool → Prop} {u1 u2 : Option Value} {s0 : Int} (k : Q (some (w_i s0)) I J b) : w_T xs xl 219 53 [some (.ref 104), u1, u2] [] [w_i s0] I J b Q := by
  refine w_goto (t := 57) rfl rfl ?_
  exact w_iret rfl rfl k
theorem e220 {xs : Nat → Int32} {xl : Nat} {I J : w_I} {b : Bool} {Q : Option Value → w_I → w_I → Bool → Prop} {a1 a2 a3 : Int} (t : w_T xs xl 220 0 [some (.ref 104), some (w_i a1), some (w_i a2), some (w_i a3), none, none, none] [] [] I J b Q) : w_C xs xl 220 [.ref 104, w_i a1, w_i a2, w_i a3] I J b Q := w_en rfl t
theorem b220_0 {xs : Nat → Int32} {xl : Nat} {I J : w_I} {b : Bool} {Q : Option Value → w_I → w_I → Bool → Prop} {a1 a2 a3 : Int} (k : ((0 ≤ 100 + 6 * I 110 7 ∧ 100 + 6 * I 110 7 < 2800) ∧ ((0 ≤ 100 + 6 * I 110 7 + 1 ∧ 100 + 6 * I 110 7 + 1 < 2800) ∧ ((0 ≤ 100 + 6 * I 110 7 + 2 ∧ 100 + 6 * I 110 7 + 2 < 2800) ∧ ((-2147483648 ≤ a3 ∧ a3 < 2147483648) ∧ ((a3 = 0 → ((0 ≤ 100 + 6 * I 110 7 + 3 ∧ 100 + 6 * I 110 7 + 3 < 2800) ∧ ((0 ≤ 100 + 6 * I 110 7 + 4 ∧ 100 + 6 * I 110 7 + 4 < 2800) ∧ ((0 ≤ 100 + 6 * I 110 7 + 5 ∧ 100 + 6 * I 110 7 + 5 < 2800) ∧ ((0 ≤ 460 + 3 * I 110 8 ∧ 460 + 3 * I 110 8 < 2800) ∧ ((0 ≤ 460 + 3 * I 110 8 + 1 ∧ 460 + 3 * I 110 8 + 1 < 2800) ∧ ((0 ≤ 460 + 3 * I 110 8 + 2 ∧ 460 + 3 * I 110 8 + 2 < 2800) ∧ Q (some (w_i (I 110 7))) (w_U (w_U (w_U (w_U (w_U (w_U (w_U (w_U (w_U (w_U (w_U I 110 (100 + 6 * I 110 7) 1) 110 (100 + 6 * I 110 7 + 1) a1) 110 (100 + 6 * I 110 7 + 2) a2) 110 (100 + 6 * I 110 7 + 3) 0) 110 (100 + 6 * I 110 7 + 4) ((w_U (w_U (w_U (w_U I 110 (100 + 6 * I 110 7) 1) 110 (100 + 6 * I 110 7 + 1) a1) 110 (100 + 6 * I 110 7 + 2) a2) 110 (100 + 6 * I 110 7 + 3) 0) 110 9)) 110 (100 + 6 * I 110 7 + 5) (I 110 8)) 110 (460 + 3 * I 110 8) 1) 110 (460 + 3 * I 110 8 + 1) (-2)) 110 (460 + 3 * I 110 8 + 2) (-2)) 110 7 ((w_U (w_U (w_U (w_U (w_U (w_U (w_U (w_U (w_U I 110 (100 + 6 * I 110 7) 1) 110 (100 + 6 * I 110 7 + 1) a1) 110 (100 + 6 * I 110 7 + 2) a2) 110 (100 + 6 * I 110 7 + 3) 0) 110 (100 + 6 * I 110 7 + 4) ((w_U (w_U (w_U (w_U I 110 (100 + 6 * I 110 7) 1) 110 (100 + 6 * I 110 7 + 1) a1) 110 (100 + 6 * I 110 7 + 2) a2) 110 (100 + 6 * I 110 7 + 3) 0) 110 9)) 110 (100 + 6 * I 110 7 + 5) (I 110 8)) 110 (460 + 3 * I 110 8) 1) 110 (460 + 3 * I 110 8 + 1) (-2)) 110 (460 + 3 * I 110 8 + 2) (-2)) 110 7 + 1)) 110 8 ((w_U (w_U (w_U (w_U (w_U (w_U (w_U (w_U (w_U I 110 (100 + 6 * I 110 7) 1) 110 (100 + 6 * I 110 7 + 1) a1) 110 (100 + 6 * I 110 7 + 2) a2) 110 (100 + 6 * I 110 7 + 3) 0) 110 (100 + 6 * I 110 7 + 4) ((w_U (w_U (w_U (w_U I 110 (100 + 6 * I 110 7) 1) 110 (100 + 6 * I 110 7 + 1) a1) 110 (100 + 6 * I 110 7 + 2) a2) 110 (100 + 6 * I 110 7 + 3) 0) 110 9)) 110 (100 + 6 * I 110 7 + 5) (I 110 8)) 110 (460 + 3 * I 110 8) 1) 110 (460 + 3 * I 110 8 + 1) (-2)) 110 (460 + 3 * I 110 8 + 2) (-2)) 110 8 + 1)) J b))))))) ∧ (¬ a3 = 0 → ((0 ≤ 100 + 6 * I 110 7 + 3 ∧ 100 + 6 * I 110 7 + 3 < 2800) ∧ ((0 ≤ 100 + 6 * I 110 7 + 4 ∧ 100 + 6 * I 110 7 + 4 < 2800) ∧ ((0 ≤ 100 + 6 * I 110 7 + 5 ∧ 100 + 6 * I 110 7 + 5 < 2800) ∧ ((0 ≤ 460 + 3 * I 110 8 ∧ 460 + 3 * I 110 8 < 2800) ∧ ((0 ≤ 460 + 3 * I 110 8 + 1 ∧ 460 + 3 * I 110 8 + 1 < 2800) ∧ ((0 ≤ 460 + 3 * I 110 8 + 2 ∧ 460 + 3 * I 110 8 + 2 < 2800) ∧ Q (some (w_i (I 110 7))) (w_U (w_U (w_U (w_U (w_U (w_U (w_U (w_U (w_U (w_U (w_U I 110 (100 + 6 * I 110 7) 1) 110 (100 + 6 * I 110 7 + 1) a1) 110 (100 + 6 * I 110 7 + 2) a2) 110 (100 + 6 * I 110 7 + 3) 1) 110 (100 + 6 * I 110 7 + 4) ((w_U (w_U (w_U (w_U I 110 (100 + 6 * I 110 7) 1) 110 (100 + 6 * I 110 7 + 1) a1) 110 (100 + 6 * I 110 7 + 2) a2) 110 (100 + 6 * I 110 7 + 3) 1) 110 9)) 110 (100 + 6 * I 110 7 + 5) (I 110 8)) 110 (460 + 3 * I 110 8) 1) 110 (460 + 3 * I 110 8 + 1) (-2)) 110 (460 + 3 * I 110 8 + 2) (-2)) 110 7 ((w_U (w_U (w_U (w_U (w_U (w_U (w_U (w_U (w_U I 110 (100 + 6 * I 110 7) 1) 110 (100 + 6 * I 110 7 + 1) a1) 110 (100 + 6 * I 110 7 + 2) a2) 110 (100 + 6 * I 110 7 + 3) 1) 110 (100 + 6 * I 110 7 + 4) ((w_U (w_U (w_U (w_U I 110 (100 + 6 * I 110 7) 1) 110 (100 + 6 * I 110 7 + 1) a1) 110 (100 + 6 * I 110 7 + 2) a2) 110 (100 + 6 * I 110 7 + 3) 1) 110 9)) 110 (100 + 6 * I 110 7 + 5) (I 110 8)) 110 (460 + 3 * I 110 8) 1) 110 (460 + 3 * I 110 8 + 1) (-2)) 110 (460 + 3 * I 110 8 + 2) (-2)) 110 7 + 1)) 110 8 ((w_U (w_U (w_U (w_U (w_U (w_U (w_U (w_U (w_U I 110 (100 + 6 * I 110 7) 1) 110 (100 + 6 * I 110 7 + 1) a1) 110 (100 + 6 * I 110 7 + 2) a2) 110 (100 + 6 * I 110 7 + 3) 1) 110 (100 + 6 * I 110 7 + 4) ((w_U (w_U (w_U (w_U I 110 (100 + 6 * I 110 7) 1) 110 (100 + 6 * I 110 7 + 1) a1) 110 (100 + 6 * I 110 7 + 2) a2) 110 (100 + 6 * I 110 7 + 3) 1) 110 9)) 110 (100 + 6 * I 110 7 + 5) (I 110 8)) 110 (460 + 3 * I 110 8) 1) 110 (460 + 3 * I 110 8 + 1) (-2)) 110 (460 + 3 * I 110 8 + 2) (-2)) 110 8 + 1)) J b))))))))))))) : w_T xs xl 220 0 [some (.ref 104), some (w_i a1), some (w_i a2), some (w_i a3), none, none, none] [] [] I J b Q := by
  refine w_aload_n (q := 1) rfl rfl rfl ?_
  refine w_gfr (q := 4) rfl rfl rfl rfl (j := 110) rfl ?_
  refine w_bipush (q := 6) rfl rfl rfl ?_
  refine w_iald (q := 7) (n := 2800) (v := I 110 7) rfl rfl rfl rfl rfl rfl (by decide) ?_
  refine w_istore (q := 9) (L' := [some (.ref 104), some (w_i a1), some (w_i a2), some (w_i a3), some (w_i (I 110 7)), none, none]) (M' := []) rfl rfl rfl rfl rfl ?_
  refine w_aload_n (q := 10) rfl rfl rfl ?_
  refine w_gfr (q := 13) rfl rfl rfl rfl (j := 110) rfl ?_
  refine w_bipush (q := 15) rfl rfl rfl ?_
  refine w_iald (q := 16) (n := 2800) (v := I 110 8) rfl rfl rfl rfl rfl rfl (by decide) ?_
  refine w_istore (q := 18) (L' := [some (.ref 104), some (w_i a1), some (w_i a2), some (w_i a3), some (w_i (I 110 7)), some (w_i (I 110 8)), none]) (M' := []) rfl rfl rfl rfl rfl ?_
  refine w_bipush (q := 20) rfl rfl rfl ?_
  refine w_bipush (q := 22) rfl rfl rfl ?_
  refine w_iload (q := 24) rfl rfl rfl ?_
  refine w_imul (q := 25) rfl rfl ?_
  refine w_iadd (q := 26) rfl rfl ?_
  refine w_istore (q := 28) (L' := [some (.ref 104), some (w_i a1), some (w_i a2), some (w_i a3), some (w_i (I 110 7)), some (w_i (I 110 8)), some (w_i (100 + 6 * I 110 7))]) (M' := []) rfl rfl rfl rfl rfl ?_
  refine w_aload_n (q := 29) rfl rfl rfl ?_
  refine w_gfr (q := 32) rfl rfl rfl rfl (j := 110) rfl ?_
  refine w_iload (q := 34) rfl rfl rfl ?_
  refine w_iconst (q := 35) rfl rfl ?_
  obtain ⟨h1, k⟩ := k
  refine w_iast (q := 36) (n := 2800) rfl rfl rfl rfl rfl h1 ?_
  refine w_aload_n (q := 37) rfl rfl rfl ?_
  refine w_gfr (q := 40) rfl rfl rfl rfl (j := 110) rfl ?_
  refine w_iload (q := 42) rfl rfl rfl ?_
  refine w_iconst (q := 43) rfl rfl ?_
  refine w_iadd (q := 44) rfl rfl ?_
  refine w_iload_n (q := 45) rfl rfl rfl ?_
  obtain ⟨h2, k⟩ := k
  refine w_iast (q := 46) (n := 2800) rfl rfl rfl rfl rfl h2 ?_
  refine w_aload_n (q := 47) rfl rfl rfl ?_
  refine w_gfr (q := 50) rfl rfl rfl rfl (j := 110) rfl ?_
  refine w_iload (q := 52) rfl rfl rfl ?_
  refine w_iconst (q := 53) rfl rfl ?_
  refine w_iadd (q := 54) rfl rfl ?_
  refine w_iload_n (q := 55) rfl rfl rfl ?_
  obtain ⟨h3, k⟩ := k
  refine w_iast (q := 56) (n := 2800) rfl rfl rfl rfl rfl h3 ?_
  refine w_aload_n (q := 57) rfl rfl rfl ?_
  refine w_gfr (q := 60) rfl rfl rfl rfl (j := 110) rfl ?_
  refine w_iload (q := 62) rfl rfl rfl ?_
  refine w_iconst (q := 63) rfl rfl ?_
  refine w_iadd (q := 64) rfl rfl ?_
  refine w_iload_n (q := 65) rfl rfl rfl ?_
  obtain ⟨h4, k⟩ := k
  refine w_zeq (t := 72) (q := 68) rfl rfl rfl h4 (fun c5 => ?_) (fun c5 => ?_)
  · replace k := k.1 c5
    refine w_iconst (q := 73) rfl rfl ?_
    obtain ⟨h6, k⟩ := k
    refine w_iast (q := 74) (n := 2800) rfl rfl rfl rfl rfl h6 ?_
    refine w_aload_n (q := 75) rfl rfl rfl ?_
    refine w_gfr (q := 78) rfl rfl rfl rfl (j := 110) rfl ?_
    refine w_iload (q := 80) rfl rfl rfl ?_
    refine w_iconst (q := 81) rfl rfl ?_
    refine w_iadd (q := 82) rfl rfl ?_
    refine w_aload_n (q := 83) rfl rfl rfl ?_
    refine w_gfr (q := 86) rfl rfl rfl rfl (j := 110) rfl ?_
    refine w_bipush (q := 88) rfl rfl rfl ?_
    refine w_iald (q := 89) (n := 2800) (v := (w_U (w_U (w_U (w_U I 110 (100 + 6 * I 110 7) 1) 110 (100 + 6 * I 110 7 + 1) a1) 110 (100 + 6 * I 110 7 + 2) a2) 110 (100 + 6 * I 110 7 + 3) 0) 110 9) rfl rfl rfl rfl rfl rfl (by decide) ?_
    obtain ⟨h7, k⟩ := k
    refine w_iast (q := 90) (n := 2800) rfl rfl rfl rfl rfl h7 ?_
    refine w_aload_n (q := 91) rfl rfl rfl ?_
    refine w_gfr (q := 94) rfl rfl rfl rfl (j := 110) rfl ?_
    refine w_iload (q := 96) rfl rfl rfl ?_
    refine w_iconst (q := 97) rfl rfl ?_
    refine w_iadd (q := 98) rfl rfl ?_
    refine w_iload (q := 100) rfl rfl rfl ?_
    obtain ⟨h8, k⟩ := k
    refine w_iast (q := 101) (n := 2800) rfl rfl rfl rfl rfl h8 ?_
    refine w_aload_n (q := 102) rfl rfl rfl ?_
    refine w_gfr (q := 105) rfl rfl rfl rfl (j := 110) rfl ?_
    refine w_sipush (q := 108) rfl rfl rfl ?_
    refine w_iconst (q := 109) rfl rfl ?_
    refine w_iload (q := 111) rfl rfl rfl ?_
    refine w_imul (q := 112) rfl rfl ?_
    refine w_iadd (q := 113) rfl rfl ?_
    refine w_iconst (q := 114) rfl rfl ?_
    obtain ⟨h9, k⟩ := k
    refine w_iast (q := 115) (n := 2800) rfl rfl rfl rfl rfl h9 ?_
    refine w_aload_n (q := 116) rfl rfl rfl ?_
    refine w_gfr (q := 119) rfl rfl rfl rfl (j := 110) rfl ?_
    refine w_sipush (q := 122) rfl rfl rfl ?_
    refine w_iconst (q := 123) rfl rfl ?_
    refine w_iload (q := 125) rfl rfl rfl ?_
    refine w_imul (q := 126) rfl rfl ?_
    refine w_iadd (q := 127) rfl rfl ?_
    refine w_iconst (q := 128) rfl rfl ?_
    refine w_iadd (q := 129) rfl rfl ?_
    refine w_bipush (q := 131) rfl rfl rfl ?_
    obtain ⟨h10, k⟩ := k
    refine w_iast (q := 132) (n := 2800) rfl rfl rfl rfl rfl h10 ?_
    refine w_aload_n (q := 133) rfl rfl rfl ?_
    refine w_gfr (q := 136) rfl rfl rfl rfl (j := 110) rfl ?_
    refine w_sipush (q := 139) rfl rfl rfl ?_
    refine w_iconst (q := 140) rfl rfl ?_
    refine w_iload (q := 142) rfl rfl rfl ?_
    refine w_imul (q := 143) rfl rfl ?_
    refine w_iadd (q := 144) rfl rfl ?_
    refine w_iconst (q := 145) rfl rfl ?_
    refine w_iadd (q := 146) rfl rfl ?_
    refine w_bipush (q := 148) rfl rfl rfl ?_
    obtain ⟨h11, k⟩ := k
    refine w_iast (q := 149) (n := 2800) rfl rfl rfl rfl rfl h11 ?_
    refine w_aload_n (q := 150) rfl rfl rfl ?_
    refine w_gfr (q := 153) rfl rfl rfl rfl (j := 110) rfl ?_
    refine w_bipush (q := 155) rfl rfl rfl ?_
    refine w_dup2 (q := 156) rfl rfl rfl rfl ?_
    refine w_iald (q := 157) (n := 2800) (v := (w_U (w_U (w_U (w_U (w_U (w_U (w_U (w_U (w_U I 110 (100 + 6 * I 110 7) 1) 110 (100 + 6 * I 110 7 + 1) a1) 110 (100 + 6 * I 110 7 + 2) a2) 110 (100 + 6 * I 110 7 + 3) 0) 110 (100 + 6 * I 110 7 + 4) ((w_U (w_U (w_U (w_U I 110 (100 + 6 * I 110 7) 1) 110 (100 + 6 * I 110 7 + 1) a1) 110 (100 + 6 * I 110 7 + 2) a2) 110 (100 + 6 * I 110 7 + 3) 0) 110 9)) 110 (100 + 6 * I 110 7 + 5) (I 110 8)) 110 (460 + 3 * I 110 8) 1) 110 (460 + 3 * I 110 8 + 1) (-2)) 110 (460 + 3 * I 110 8 + 2) (-2)) 110 7) rfl rfl rfl rfl rfl rfl (by decide) ?_
    refine w_iconst (q := 158) rfl rfl ?_
    refine w_iadd (q := 159) rfl rfl ?_
    refine w_iast (q := 160) (n := 2800) rfl rfl rfl rfl rfl (by decide) ?_
    refine w_aload_n (q := 161) rfl rfl rfl ?_
    refine w_gfr (q := 164) rfl rfl rfl rfl (j := 110) rfl ?_
    refine w_bipush (q := 166) rfl rfl rfl ?_
    refine w_dup2 (q := 167) rfl rfl rfl rfl ?_
    refine w_iald (q := 168) (n := 2800) (v := (w_U (w_U (w_U (w_U (w_U (w_U (w_U (w_U (w_U I 110 (100 + 6 * I 110 7) 1) 110 (100 + 6 * I 110 7 + 1) a1) 110 (100 + 6 * I 110 7 + 2) a2) 110 (100 + 6 * I 110 7 + 3) 0) 110 (100 + 6 * I 110 7 + 4) ((w_U (w_U (w_U (w_U I 110 (100 + 6 * I 110 7) 1) 110 (100 + 6 * I 110 7 + 1) a1) 110 (100 + 6 * I 110 7 + 2) a2) 110 (100 + 6 * I 110 7 + 3) 0) 110 9)) 110 (100 + 6 * I 110 7 + 5) (I 110 8)) 110 (460 + 3 * I 110 8) 1) 110 (460 + 3 * I 110 8 + 1) (-2)) 110 (460 + 3 * I 110 8 + 2) (-2)) 110 8) rfl rfl rfl rfl rfl rfl (by decide) ?_
    refine w_iconst (q := 169) rfl rfl ?_
    refine w_iadd (q := 170) rfl rfl ?_
    refine w_iast (q := 171) (n := 2800) rfl rfl rfl rfl rfl (by decide) ?_
    refine w_iload (q := 173) rfl rfl rfl ?_
    exact w_iret rfl rfl k
  · replace k := k.2 c5
    refine w_iconst (q := 69) rfl rfl ?_
    refine w_goto (t := 73) rfl rfl ?_
    obtain ⟨h12, k⟩ := k
    refine w_iast (q := 74) (n := 2800) rfl rfl rfl rfl rfl h12 ?_
    refine w_aload_n (q := 75) rfl rfl rfl ?_
    refine w_gfr (q := 78) rfl rfl rfl rfl (j := 110) rfl ?_
    refine w_iload (q := 80) rfl rfl rfl ?_
    refine w_iconst (q := 81) rfl rfl ?_
    refine w_iadd (q := 82) rfl rfl ?_
    refine w_aload_n (q := 83) rfl rfl rfl ?_
    refine w_gfr (q := 86) rfl rfl rfl rfl (j := 110) rfl ?_
    refine w_bipush (q := 88) rfl rfl rfl ?_
    refine w_iald (q := 89) (n := 2800) (v := (w_U (w_U (w_U (w_U I 110 (100 + 6 * I 110 7) 1) 110 (100 + 6 * I 110 7 + 1) a1) 110 (100 + 6 * I 110 7 + 2) a2) 110 (100 + 6 * I 110 7 + 3) 1) 110 9) rfl rfl rfl rfl rfl rfl (by decide) ?_
    obtain ⟨h13, k⟩ := k
    refine w_iast (q := 90) (n := 2800) rfl rfl rfl rfl rfl h13 ?_
    refine w_aload_n (q := 91) rfl rfl rfl ?_
    refine w_gfr (q := 94) rfl rfl rfl rfl (j := 110) rfl ?_
    refine w_iload (q := 96) rfl rfl rfl ?_
    refine w_iconst (q := 97) rfl rfl ?_
    refine w_iadd (q := 98) rfl rfl ?_
    refine w_iload (q := 100) rfl rfl rfl ?_
    obtain ⟨h14, k⟩ := k
    refine w_iast (q := 101) (n := 2800) rfl rfl rfl rfl rfl h14 ?_
    refine w_aload_n (q := 102) rfl rfl rfl ?_
    refine w_gfr (q := 105) rfl rfl rfl rfl (j := 110) rfl ?_
    refine w_sipush (q := 108) rfl rfl rfl ?_
    refine w_iconst (q := 109) rfl rfl ?_
    refine w_iload (q := 111) rfl rfl rfl ?_
    refine w_imul (q := 112) rfl rfl ?_
    refine w_iadd (q := 113) rfl rfl ?_
    refine w_iconst (q := 114) rfl rfl ?_
    obtain ⟨h15, k⟩ := k
    refine w_iast (q := 115) (n := 2800) rfl rfl rfl rfl rfl h15 ?_
    refine w_aload_n (q := 116) rfl rfl rfl ?_
    refine w_gfr (q := 119) rfl rfl rfl rfl (j := 110) rfl ?_
    refine w_sipush (q := 122) rfl rfl rfl ?_
    refine w_iconst (q := 123) rfl rfl ?_
    refine w_iload (q := 125) rfl rfl rfl ?_
    refine w_imul (q := 126) rfl rfl ?_
    refine w_iadd (q := 127) rfl rfl ?_
    refine w_iconst (q := 128) rfl rfl ?_
    refine w_iadd (q := 129) rfl rfl ?_
    refine w_bipush (q := 131) rfl rfl rfl ?_
    obtain ⟨h16, k⟩ := k
    refine w_iast (q := 132) (n := 2800) rfl rfl rfl rfl rfl h16 ?_
    refine w_aload_n (q := 133) rfl rfl rfl ?_
    refine w_gfr (q := 136) rfl rfl rfl rfl (j := 110) rfl ?_
    refine w_sipush (q := 139) rfl rfl rfl ?_
    refine w_iconst (q := 140) rfl rfl ?_
    refine w_iload (q := 142) rfl rfl rfl ?_
    refine w_imul (q := 143) rfl rfl ?_
    refine w_iadd (q := 144) rfl rfl ?_
    refine w_iconst (q := 145) rfl rfl ?_
    refine w_iadd (q := 146) rfl rfl ?_
    refine w_bipush (q := 148) rfl rfl rfl ?_
    obtain ⟨h17, k⟩ := k
    refine w_iast (q := 149) (n := 2800) rfl rfl rfl rfl rfl h17 ?_
    refine w_aload_n (q := 150) rfl rfl rfl ?_
    refine w_gfr (q := 153) rfl rfl rfl rfl (j := 110) rfl ?_
    refine w_bipush (q := 155) rfl rfl rfl ?_
    refine w_dup2 (q := 156) rfl rfl rfl rfl ?_
    refine w_iald (q := 157) (n := 2800) (v := (w_U (w_U (w_U (w_U (w_U (w_U (w_U (w_U (w_U I 110 (100 + 6 * I 110 7) 1) 110 (100 + 6 * I 110 7 + 1) a1) 110 (100 + 6 * I 110 7 + 2) a2) 110 (100 + 6 * I 110 7 + 3) 1) 110 (100 + 6 * I 110 7 + 4) ((w_U (w_U (w_U (w_U I 110 (100 + 6 * I 110 7) 1) 110 (100 + 6 * I 110 7 + 1) a1) 110 (100 + 6 * I 110 7 + 2) a2) 110 (100 + 6 * I 110 7 + 3) 1) 110 9)) 110 (100 + 6 * I 110 7 + 5) (I 110 8)) 110 (460 + 3 * I 110 8) 1) 110 (460 + 3 * I 110 8 + 1) (-2)) 110 (460 + 3 * I 110 8 + 2) (-2)) 110 7) rfl rfl rfl rfl rfl rfl (by decide) ?_
    refine w_iconst (q := 158) rfl rfl ?_
    refine w_iadd (q := 159) rfl rfl ?_
    refine w_iast (q := 160) (n := 2800) rfl rfl rfl rfl rfl (by decide) ?_
    refine w_aload_n (q := 161) rfl rfl rfl ?_
    refine w_gfr (q := 164) rfl rfl rfl rfl (j := 110) rfl ?_
    refine w_bipush (q := 166) rfl rfl rfl ?_
    refine w_dup2 (q := 167) rfl rfl rfl rfl ?_
    refine w_iald (q := 168) (n := 2800) (v := (w_U (w_U (w_U (w_U (w_U (w_U (w_U (w_U (w_U I 110 (100 + 6 * I 110 7) 1) 110 (100 + 6 * I 110 7 + 1) a1) 110 (100 + 6 * I 110 7 + 2) a2) 110 (100 + 6 * I 110 7 + 3) 1) 110 (100 + 6 * I 110 7 + 4) ((w_U (w_U (w_U (w_U I 110 (100 + 6 * I 110 7) 1) 110 (100 + 6 * I 110 7 + 1) a1) 110 (100 + 6 * I 110 7 + 2) a2) 110 (100 + 6 * I 110 7 + 3) 1) 110 9)) 110 (100 + 6 * I 110 7 + 5) (I 110 8)) 110 (460 + 3 * I 110 8) 1) 110 (460 + 3 * I 110 8 + 1) (-2)) 110 (460 + 3 * I 110 8 + 2) (-2)) 110 8) rfl rfl rfl rfl rfl rfl (by decide) ?_
    refine w_iconst (q := 169) rfl rfl ?_
    refine w_iadd (q := 170) rfl rfl ?_
    refine w_iast (q := 171) (n := 2800) rfl rfl rfl rfl rfl (by decide) ?_
    refine w_iload (q := 173) rfl rfl rfl ?_
    exact w_iret rfl rfl k
theorem e221 {xs : Nat → Int32} {xl : Nat} {I J : w_I} {b : Bool} {Q : Option Value → w_I → w_I → Bool → Prop} {a1 a2 a3 : Int} (t : w_T xs xl 221 0 [some (.ref 104), some (w_i a1), some (w_i a2), some (w_i a3)] [] [] I J b Q) : w_C xs xl 221 [.ref 104, w_i a1, w_i a2, w_i a3] I J b Q := w_en rfl t
theorem b221_0 {xs : Nat → Int32} {xl : Nat} {I J : w_I} {b : Bool} {Q : Option Value → w_I → w_I → Bool → Prop} {a1 a2 a3 : Int} (k : ((-2147483648 ≤ I 110 7 ∧ I 110 7 < 2147483648) ∧ ((I 110 7 = 60 → Q (some (w_i (-1))) I J b) ∧ (¬ I 110 7 = 60 → ((-2147483648 ≤ I 110 8 ∧ I 110 8 < 2147483648) ∧ ((I 110 8 = 30 → Q (some (w_i (-1))) I J b) ∧ (¬ I 110 8 = 30 → w_C xs xl 209 [w_i a1, w_i 0, w_i 99] I J b (fun v Ic Jc bc => w_T xs xl 221 31 [some (.ref 104), some (w_i a1), some (w_i a2), some (w_i a3)] [] (w_pv v []) Ic Jc bc Q)))))))) : w_T xs xl 221 0 [some (.ref 104), some (w_i a1), some (w_i a2), some (w_i a3)] [] [] I J b Q := by
  refine w_aload_n (q := 1) rfl rfl rfl ?_
  refine w_gfr (q := 4) rfl rfl rfl rfl (j := 110) rfl ?_
  refine w_bipush (q := 6) rfl rfl rfl ?_
  refine w_iald (q := 7) (n := 2800) (v := I 110 7) rfl rfl rfl rfl rfl rfl (by decide) ?_
  refine w_bipush (q := 9) rfl rfl rfl ?_
  obtain ⟨h1, k⟩ := k
  refine w_ceq (t := 44) (q := 12) rfl rfl rfl h1 (by decide) (fun c2 => ?_) (fun c2 => ?_)
  · replace k := k.1 c2
    refine w_iconst (q := 45) rfl rfl ?_
    refine w_goto (t := 55) rfl rfl ?_
    exact w_iret rfl rfl k
  · replace k := k.2 c2
    refine w_aload_n (q := 13) rfl rfl rfl ?_
    refine w_gfr (q := 16) rfl rfl rfl rfl (j := 110) rfl ?_
    refine w_bipush (q := 18) rfl rfl rfl ?_
    refine w_iald (q := 19) (n := 2800) (v := I 110 8) rfl rfl rfl rfl rfl rfl (by decide) ?_
    refine w_bipush (q := 21) rfl rfl rfl ?_
    obtain ⟨h3, k⟩ := k
    refine w_ceq (t := 44) (q := 24) rfl rfl rfl h3 (by decide) (fun c4 => ?_) (fun c4 => ?_)
    · replace k := k.1 c4
      refine w_iconst (q := 45) rfl rfl ?_
      refine w_goto (t := 55) rfl rfl ?_
      exact w_iret rfl rfl k
    · replace k := k.2 c4
      refine w_iload_n (q := 25) rfl rfl rfl ?_
      refine w_iconst (q := 26) rfl rfl ?_
      refine w_bipush (q := 28) rfl rfl rfl ?_
      refine w_call (q := 31) rfl rfl rfl rfl rfl ?_
      exact k
theorem b221_31 {xs : Nat → Int32} {xl : Nat} {I J : w_I} {b : Bool} {Q : Option Value → w_I → w_I → Bool → Prop} {l1 l2 l3 s0 : Int} (k : ((-2147483648 ≤ s0 ∧ s0 < 2147483648) ∧ ((s0 = 0 → Q (some (w_i (-1))) I J b) ∧ (¬ s0 = 0 → w_C xs xl 209 [w_i l2, w_i 0, w_i 99] I J b (fun v Ic Jc bc => w_T xs xl 221 41 [some (.ref 104), some (w_i l1), some (w_i l2), some (w_i l3)] [] (w_pv v []) Ic Jc bc Q))))) : w_T xs xl 221 31 [some (.ref 104), some (w_i l1), some (w_i l2), some (w_i l3)] [] [w_i s0] I J b Q := by
  obtain ⟨h1, k⟩ := k
  refine w_zeq (t := 44) (q := 34) rfl rfl rfl h1 (fun c2 => ?_) (fun c2 => ?_)
  · replace k := k.1 c2
    refine w_iconst (q := 45) rfl rfl ?_
    refine w_goto (t := 55) rfl rfl ?_
    exact w_iret rfl rfl k
  · replace k := k.2 c2
    refine w_iload_n (q := 35) rfl rfl rfl ?_
    refine w_iconst (q := 36) rfl rfl ?_
    refine w_bipush (q := 38) rfl rfl rfl ?_
    refine w_call (q := 41) rfl rfl rfl rfl rfl ?_
    exact k
theorem b221_41 {xs : Nat → Int32} {xl : Nat} {I J : w_I} {b : Bool} {Q : Option Value → w_I → w_I → Bool → Prop} {l1 l2 l3 s0 : Int} (k : ((-2147483648 ≤ s0 ∧ s0 < 2147483648) ∧ ((¬ s0 = 0 → w_C xs xl 220 [.ref 104, w_i l1, w_i l2, w_i l3] I J b (fun v Ic Jc bc => w_T xs xl 221 55 [some (.ref 104), some (w_i l1), some (w_i l2), some (w_i l3)] [] (w_pv v []) Ic Jc bc Q)) ∧ (s0 = 0 → Q (some (w_i (-1))) I J b)))) : w_T xs xl 221 41 [some (.ref 104), some (w_i l1), some (w_i l2), some (w_i l3)] [] [w_i s0] I J b Q := by
  obtain ⟨h1, k⟩ := k
  refine w_zne (t := 48) (q := 44) rfl rfl rfl h1 (fun c2 => ?_) (fun c2 => ?_)
  · replace k := k.1 c2
    refine w_aload_n (q := 49) rfl rfl rfl ?_
    refine w_iload_n (q := 50) rfl rfl rfl ?_
    refine w_iload_n (q := 51) rfl rfl rfl ?_
    refine w_iload_n (q := 52) rfl rfl rfl ?_
    refine w_callv (q := 55) rfl rfl rfl rfl rfl rfl ?_
    exact k
  · replace k := k.2 c2
    refine w_iconst (q := 45) rfl rfl ?_
    refine w_goto (t := 55) rfl rfl ?_
    exact w_iret rfl rfl k
theorem b221_55 {xs : Nat → Int32} {xl : Nat} {I J : w_I} {b : Bool} {Q : Option Value → w_I → w_I → Bool → Prop} {u1 u2 u3 : Option Value} {s0 : Int} (k : Q (some (w_i s0)) I J b) : w_T xs xl 221 55 [some (.ref 104), u1, u2, u3] [] [w_i s0] I J b Q := by
  exact w_iret rfl rfl k
theorem e222 {xs : Nat → Int32} {xl : Nat} {I J : w_I} {b : Bool} {Q : Option Value → w_I → w_I → Bool → Prop} {a1 : Int} (t : w_T xs xl 222 0 [some (.ref 104), some (w_i a1)] [] [] I J b Q) : w_C xs xl 222 [.ref 104, w_i a1] I J b Q := w_en rfl t
theorem b222_0 {xs : Nat → Int32} {xl : Nat} {I J : w_I} {b : Bool} {Q : Option Value → w_I → w_I → Bool → Prop} {a1 : Int} (k : w_C xs xl 217 [.ref 104, w_i a1] I J b (fun v Ic Jc bc => w_T xs xl 222 5 [some (.ref 104), some (w_i a1)] [] (w_pv v []) Ic Jc bc Q)) : w_T xs xl 222 0 [some (.ref 104), some (w_i a1)] [] [] I J b Q := by
  refine w_aload_n (q := 1) rfl rfl rfl ?_
  refine w_iload_n (q := 2) rfl rfl rfl ?_
  refine w_callv (q := 5) rfl rfl rfl rfl rfl rfl ?_
  exact k
theorem b222_5 {xs : Nat → Int32} {xl : Nat} {I J : w_I} {b : Bool} {Q : Option Value → w_I → w_I → Bool → Prop} {l1 : Int} (k : ((-2147483648 ≤ I 104 33 ∧ I 104 33 < 2147483648) ∧ ((¬ I 104 33 = 0 → Q none I J b) ∧ (I 104 33 = 0 → ((0 ≤ 460 + 3 * l1 ∧ 460 + 3 * l1 < 2800) ∧ Q none (w_U I 110 (460 + 3 * l1) 0) J b))))) : w_T xs xl 222 5 [some (.ref 104), some (w_i l1)] [] [] I J b Q := by
  refine w_aload_n (q := 6) rfl rfl rfl ?_
  refine w_gfi (q := 9) (k' := 33) (v := I 104 33) rfl rfl rfl rfl rfl rfl rfl ?_
  obtain ⟨h1, k⟩ := k
  refine w_zne (t := 25) (q := 12) rfl rfl rfl h1 (fun c2 => ?_) (fun c2 => ?_)
  · replace k := k.1 c2
    exact w_vret rfl k
  · replace k := k.2 c2
    refine w_aload_n (q := 13) rfl rfl rfl ?_
    refine w_gfr (q := 16) rfl rfl rfl rfl (j := 110) rfl ?_
    refine w_sipush (q := 19) rfl rfl rfl ?_
    refine w_iconst (q := 20) rfl rfl ?_
    refine w_iload_n (q := 21) rfl rfl rfl ?_
    refine w_imul (q := 22) rfl rfl ?_
    refine w_iadd (q := 23) rfl rfl ?_
    refine w_iconst (q := 24) rfl rfl ?_
    obtain ⟨h3, k⟩ := k
    refine w_iast (q := 25) (n := 2800) rfl rfl rfl rfl rfl h3 ?_
    exact w_vret rfl k
theorem e223 {xs : Nat → Int32} {xl : Nat} {I J : w_I} {b : Bool} {Q : Option Value → w_I → w_I → Bool → Prop} {a1 a2 : Int} (t : w_T xs xl 223 0 [some (.ref 104), some (w_i a1), some (w_i a2), none] [] [] I J b Q) : w_C xs xl 223 [.ref 104, w_i a1, w_i a2] I J b Q := w_en rfl t
theorem b223_0 {xs : Nat → Int32} {xl : Nat} {I J : w_I} {b : Bool} {Q : Option Value → w_I → w_I → Bool → Prop} {a1 a2 : Int} (k : w_C xs xl 210 [.ref 104, w_i a1] I J b (fun v Ic Jc bc => w_T xs xl 223 5 [some (.ref 104), some (w_i a1), some (w_i a2), none] [] (w_pv v []) Ic Jc bc Q)) : w_T xs xl 223 0 [some (.ref 104), some (w_i a1), some (w_i a2), none] [] [] I J b Q := by
  refine w_aload_n (q := 1) rfl rfl rfl ?_
  refine w_iload_n (q := 2) rfl rfl rfl ?_
  refine w_callv (q := 5) rfl rfl rfl rfl rfl rfl ?_
  exact k
theorem b223_5 {xs : Nat → Int32} {xl : Nat} {I J : w_I} {b : Bool} {Q : Option Value → w_I → w_I → Bool → Prop} {l1 l2 s0 : Int} {u3 : Option Value} (k : ((-2147483648 ≤ s0 ∧ s0 < 2147483648) ∧ ((s0 = 0 → Q (some (w_i 0)) I J b) ∧ (¬ s0 = 0 → w_C xs xl 211 [.ref 104, w_i l2] I J b (fun v Ic Jc bc => w_T xs xl 223 13 [some (.ref 104), some (w_i l1), some (w_i l2), u3] [] (w_pv v []) Ic Jc bc Q))))) : w_T xs xl 223 5 [some (.ref 104), some (w_i l1), some (w_i l2), u3] [] [w_i s0] I J b Q := by
  obtain ⟨h1, k⟩ := k
  refine w_zeq (t := 34) (q := 8) rfl rfl rfl h1 (fun c2 => ?_) (fun c2 => ?_)
  · replace k := k.1 c2
    refine w_iconst (q := 35) rfl rfl ?_
    refine w_iret rfl rfl k
  · replace k := k.2 c2
    refine w_aload_n (q := 9) rfl rfl rfl ?_
    refine w_iload_n (q := 10) rfl rfl rfl ?_
    refine w_callv (q := 13) rfl rfl rfl rfl rfl rfl ?_
    exact k
theorem b223_13 {xs : Nat → Int32} {xl : Nat} {I J : w_I} {b : Bool} {Q : Option Value → w_I → w_I → Bool → Prop} {l1 l2 s0 : Int} {u3 : Option Value} (k : ((-2147483648 ≤ s0 ∧ s0 < 2147483648) ∧ ((s0 = 0 → Q (some (w_i 0)) I J b) ∧ (¬ s0 = 0 → ((0 ≤ 100 + 6 * l1 + 5 ∧ 100 + 6 * l1 + 5 < 2800) ∧ ((-2147483648 ≤ I 110 (100 + 6 * l1 + 5) ∧ I 110 (100 + 6 * l1 + 5) < 2147483648) ∧ (-2147483648 ≤ l2 ∧ l2 < 2147483648) ∧ ((¬ I 110 (100 + 6 * l1 + 5) = l2 → w_C xs xl 217 [.ref 104, w_i l2] I J b (fun v Ic Jc bc => w_T xs xl 223 41 [some (.ref 104), some (w_i l1), some (w_i l2), u3] [] (w_pv v []) Ic Jc bc Q)) ∧ (I 110 (100 + 6 * l1 + 5) = l2 → Q (some (w_i 0)) I J b)))))))) : w_T xs xl 223 13 [some (.ref 104), some (w_i l1), some (w_i l2), u3] [] [w_i s0] I J b Q := by
  obtain ⟨h1, k⟩ := k
  refine w_zeq (t := 34) (q := 16) rfl rfl rfl h1 (fun c2 => ?_) (fun c2 => ?_)
  · replace k := k.1 c2
    refine w_iconst (q := 35) rfl rfl ?_
    refine w_iret rfl rfl k
  · replace k := k.2 c2
    refine w_aload_n (q := 17) rfl rfl rfl ?_
    refine w_gfr (q := 20) rfl rfl rfl rfl (j := 110) rfl ?_
    refine w_bipush (q := 22) rfl rfl rfl ?_
    refine w_bipush (q := 24) rfl rfl rfl ?_
    refine w_iload_n (q := 25) rfl rfl rfl ?_
    refine w_imul (q := 26) rfl rfl ?_
    refine w_iadd (q := 27) rfl rfl ?_
    refine w_iconst (q := 28) rfl rfl ?_
    refine w_iadd (q := 29) rfl rfl ?_
    obtain ⟨h3, k⟩ := k
    refine w_iald (q := 30) (n := 2800) (v := I 110 (100 + 6 * l1 + 5)) rfl rfl rfl rfl rfl rfl h3 ?_
    refine w_iload_n (q := 31) rfl rfl rfl ?_
    obtain ⟨h4, h5, k⟩ := k
    refine w_cne (t := 36) (q := 34) rfl rfl rfl h4 h5 (fun c6 => ?_) (fun c6 => ?_)
    · replace k := k.1 c6
      refine w_aload_n (q := 37) rfl rfl rfl ?_
      refine w_iload_n (q := 38) rfl rfl rfl ?_
      refine w_callv (q := 41) rfl rfl rfl rfl rfl rfl ?_
      exact k
    · replace k := k.2 c6
      refine w_iconst (q := 35) rfl rfl ?_
      refine w_iret rfl rfl k
theorem b223_41 {xs : Nat → Int32} {xl : Nat} {I J : w_I} {b : Bool} {Q : Option Value → w_I → w_I → Bool → Prop} {l1 l2 : Int} {u3 : Option Value} (k : ((-2147483648 ≤ I 104 33 ∧ I 104 33 < 2147483648) ∧ ((¬ I 104 33 = 6 → ((0 ≤ 100 + 6 * l1 + 5 ∧ 100 + 6 * l1 + 5 < 2800) ∧ w_C xs xl 222 [.ref 104, w_i (I 110 (100 + 6 * l1 + 5))] (w_U I 110 (100 + 6 * l1 + 5) l2) J b (fun v Ic Jc bc => w_T xs xl 223 87 [some (.ref 104), some (w_i l1), some (w_i l2), some (w_i (I 110 (100 + 6 * l1 + 5)))] [] (w_pv v []) Ic Jc bc Q))) ∧ (I 104 33 = 6 → Q (some (w_i 0)) I J b)))) : w_T xs xl 223 41 [some (.ref 104), some (w_i l1), some (w_i l2), u3] [] [] I J b Q := by
  refine w_aload_n (q := 42) rfl rfl rfl ?_
  refine w_gfi (q := 45) (k' := 33) (v := I 104 33) rfl rfl rfl rfl rfl rfl rfl ?_
  refine w_bipush (q := 47) rfl rfl rfl ?_
  obtain ⟨h1, k⟩ := k
  refine w_cne (t := 52) (q := 50) rfl rfl rfl h1 (by decide) (fun c2 => ?_) (fun c2 => ?_)
  · replace k := k.1 c2
    refine w_aload_n (q := 53) rfl rfl rfl ?_
    refine w_gfr (q := 56) rfl rfl rfl rfl (j := 110) rfl ?_
    refine w_bipush (q := 58) rfl rfl rfl ?_
    refine w_bipush (q := 60) rfl rfl rfl ?_
    refine w_iload_n (q := 61) rfl rfl rfl ?_
    refine w_imul (q := 62) rfl rfl ?_
    refine w_iadd (q := 63) rfl rfl ?_
    refine w_iconst (q := 64) rfl rfl ?_
    refine w_iadd (q := 65) rfl rfl ?_
    obtain ⟨h3, k⟩ := k
    refine w_iald (q := 66) (n := 2800) (v := I 110 (100 + 6 * l1 + 5)) rfl rfl rfl rfl rfl rfl h3 ?_
    refine w_istore_n (q := 67) (L' := [some (.ref 104), some (w_i l1), some (w_i l2), some (w_i (I 110 (100 + 6 * l1 + 5)))]) (M' := []) rfl rfl rfl rfl rfl ?_
    refine w_aload_n (q := 68) rfl rfl rfl ?_
    refine w_gfr (q := 71) rfl rfl rfl rfl (j := 110) rfl ?_
    refine w_bipush (q := 73) rfl rfl rfl ?_
    refine w_bipush (q := 75) rfl rfl rfl ?_
    refine w_iload_n (q := 76) rfl rfl rfl ?_
    refine w_imul (q := 77) rfl rfl ?_
    refine w_iadd (q := 78) rfl rfl ?_
    refine w_iconst (q := 79) rfl rfl ?_
    refine w_iadd (q := 80) rfl rfl ?_
    refine w_iload_n (q := 81) rfl rfl rfl ?_
    refine w_iast (q := 82) (n := 2800) rfl rfl rfl rfl rfl h3 ?_
    refine w_aload_n (q := 83) rfl rfl rfl ?_
    refine w_iload_n (q := 84) rfl rfl rfl ?_
    refine w_callv (q := 87) rfl rfl rfl rfl rfl rfl ?_
    exact k
  · replace k := k.2 c2
    refine w_iconst (q := 51) rfl rfl ?_
    refine w_iret rfl rfl k
theorem b223_87 {xs : Nat → Int32} {xl : Nat} {I J : w_I} {b : Bool} {Q : Option Value → w_I → w_I → Bool → Prop} {u1 u2 u3 : Option Value} (k : Q (some (w_i 1)) I J b) : w_T xs xl 223 87 [some (.ref 104), u1, u2, u3] [] [] I J b Q := by
  refine w_iconst (q := 88) rfl rfl ?_
  refine w_iret rfl rfl k
theorem e224 {xs : Nat → Int32} {xl : Nat} {I J : w_I} {b : Bool} {Q : Option Value → w_I → w_I → Bool → Prop} {a1 : Int} (t : w_T xs xl 224 0 [some (.ref 104), some (w_i a1)] [] [] I J b Q) : w_C xs xl 224 [.ref 104, w_i a1] I J b Q := w_en rfl t
theorem b224_0 {xs : Nat → Int32} {xl : Nat} {I J : w_I} {b : Bool} {Q : Option Value → w_I → w_I → Bool → Prop} {a1 : Int} (k : ((0 ≤ 100 + 6 * a1 ∧ 100 + 6 * a1 < 2800) ∧ ((0 ≤ 100 + 6 * a1 + 5 ∧ 100 + 6 * a1 + 5 < 2800) ∧ w_C xs xl 222 [.ref 104, w_i ((w_U I 110 (100 + 6 * a1) 0) 110 (100 + 6 * a1 + 5))] (w_U I 110 (100 + 6 * a1) 0) J b (fun v Ic Jc bc => w_T xs xl 224 31 [some (.ref 104), some (w_i a1)] [] (w_pv v []) Ic Jc bc Q)))) : w_T xs xl 224 0 [some (.ref 104), some (w_i a1)] [] [] I J b Q := by
  refine w_aload_n (q := 1) rfl rfl rfl ?_
  refine w_gfr (q := 4) rfl rfl rfl rfl (j := 110) rfl ?_
  refine w_bipush (q := 6) rfl rfl rfl ?_
  refine w_bipush (q := 8) rfl rfl rfl ?_
  refine w_iload_n (q := 9) rfl rfl rfl ?_
  refine w_imul (q := 10) rfl rfl ?_
  refine w_iadd (q := 11) rfl rfl ?_
  refine w_iconst (q := 12) rfl rfl ?_
  obtain ⟨h1, k⟩ := k
  refine w_iast (q := 13) (n := 2800) rfl rfl rfl rfl rfl h1 ?_
  refine w_aload_n (q := 14) rfl rfl rfl ?_
  refine w_aload_n (q := 15) rfl rfl rfl ?_
  refine w_gfr (q := 18) rfl rfl rfl rfl (j := 110) rfl ?_
  refine w_bipush (q := 20) rfl rfl rfl ?_
  refine w_bipush (q := 22) rfl rfl rfl ?_
  refine w_iload_n (q := 23) rfl rfl rfl ?_
  refine w_imul (q := 24) rfl rfl ?_
  refine w_iadd (q := 25) rfl rfl ?_
  refine w_iconst (q := 26) rfl rfl ?_
  refine w_iadd (q := 27) rfl rfl ?_
  obtain ⟨h2, k⟩ := k
  refine w_iald (q := 28) (n := 2800) (v := (w_U I 110 (100 + 6 * a1) 0) 110 (100 + 6 * a1 + 5)) rfl rfl rfl rfl rfl rfl h2 ?_
  refine w_callv (q := 31) rfl rfl rfl rfl rfl rfl ?_
  exact k
theorem b224_31 {xs : Nat → Int32} {xl : Nat} {I J : w_I} {b : Bool} {Q : Option Value → w_I → w_I → Bool → Prop} {u1 : Option Value} (k : Q none I J b) : w_T xs xl 224 31 [some (.ref 104), u1] [] [] I J b Q := by
  exact w_vret rfl k
theorem e225 {xs : Nat → Int32} {xl : Nat} {I J : w_I} {b : Bool} {Q : Option Value → w_I → w_I → Bool → Prop} {a1 : Int} (t : w_T xs xl 225 0 [some (.ref 104), some (w_i a1)] [] [] I J b Q) : w_C xs xl 225 [.ref 104, w_i a1] I J b Q := w_en rfl t
theorem b225_0 {xs : Nat → Int32} {xl : Nat} {I J : w_I} {b : Bool} {Q : Option Value → w_I → w_I → Bool → Prop} {a1 : Int} (k : w_C xs xl 210 [.ref 104, w_i a1] I J b (fun v Ic Jc bc => w_T xs xl 225 5 [some (.ref 104), some (w_i a1)] [] (w_pv v []) Ic Jc bc Q)) : w_T xs xl 225 0 [some (.ref 104), some (w_i a1)] [] [] I J b Q := by
  refine w_aload_n (q := 1) rfl rfl rfl ?_
  refine w_iload_n (q := 2) rfl rfl rfl ?_
  refine w_callv (q := 5) rfl rfl rfl rfl rfl rfl ?_
  exact k
theorem b225_5 {xs : Nat → Int32} {xl : Nat} {I J : w_I} {b : Bool} {Q : Option Value → w_I → w_I → Bool → Prop} {l1 s0 : Int} (k : ((-2147483648 ≤ s0 ∧ s0 < 2147483648) ∧ ((¬ s0 = 0 → w_C xs xl 224 [.ref 104, w_i l1] I J b (fun v Ic Jc bc => w_T xs xl 225 15 [some (.ref 104), some (w_i l1)] [] (w_pv v []) Ic Jc bc Q)) ∧ (s0 = 0 → Q (some (w_i 0)) I J b)))) : w_T xs xl 225 5 [some (.ref 104), some (w_i l1)] [] [w_i s0] I J b Q := by
  obtain ⟨h1, k⟩ := k
  refine w_zne (t := 10) (q := 8) rfl rfl rfl h1 (fun c2 => ?_) (fun c2 => ?_)
  · replace k := k.1 c2
    refine w_aload_n (q := 11) rfl rfl rfl ?_
    refine w_iload_n (q := 12) rfl rfl rfl ?_
    refine w_callv (q := 15) rfl rfl rfl rfl rfl rfl ?_
    exact k
  · replace k := k.2 c2
    refine w_iconst (q := 9) rfl rfl ?_
    refine w_iret rfl rfl k
theorem b225_15 {xs : Nat → Int32} {xl : Nat} {I J : w_I} {b : Bool} {Q : Option Value → w_I → w_I → Bool → Prop} {u1 : Option Value} (k : Q (some (w_i 1)) I J b) : w_T xs xl 225 15 [some (.ref 104), u1] [] [] I J b Q := by
  refine w_iconst (q := 16) rfl rfl ?_
  refine w_iret rfl rfl k
end
