abbrev Y_L_law : ZM := (yL_law, cL_law, 4, some .boolean, 8, 179)
theorem x_lret {L : Nat} {xs : Nat → Int32} {pc : Nat} {lo : List (Nat × ZV)} {S : ZH} (d : decode cL_law pc = .ok (.ireturn, 1)) : Wp Y_L_law zE (z_FL L xs) pc lo [z_i 1] S := x_lret0 rfl rfl d
def j_L_law_244 (L : Nat) (xs : Nat → Int32) (n1 : Nat) (n2 : Nat) (x3 : Int32)  (S : ZH) : Option ((Int32 × ZH) ⊕ (ZH)) :=
  (zldX L xs (x3 + (1 : Int32))).bind fun v6 =>
  (f_X11_streets n1 v6 S).bind fun q7 =>
  (zldX L xs (x3 + (1 : Int32))).bind fun v8 =>
  (f_X12_streets n2 v8 q7.2).bind fun q9 =>
  if q7.1 = q9.1 then (
    some (Sum.inl ((x3 + 10), q9.2))
  ) else (
    none
  )
def j_L_law_318 (L : Nat) (xs : Nat → Int32) (n1 : Nat) (n2 : Nat) (x3 : Int32) (s0 : Int32) (s1 : Option Nat) (s2 : Int32) (s3 : Int32) (s4 : Int32) (S : ZH) : Option ((Int32 × ZH) ⊕ (ZH)) :=
  (s1).bind fun a19 =>
  (f_X12_way a19 s2 s3 s4 S).bind fun q20 =>
  if s0 = q20.1 then (
    some (Sum.inl ((x3 + 10), q20.2))
  ) else (
    none
  )
def j_L_law_291 (L : Nat) (xs : Nat → Int32) (n1 : Nat) (n2 : Nat) (x3 : Int32) (s0 : Option Nat) (s1 : Int32) (s2 : Int32) (s3 : Int32) (S : ZH) : Option ((Int32 × ZH) ⊕ (ZH)) :=
  (s0).bind fun a14 =>
  (f_X11_way a14 s1 s2 s3 S).bind fun q15 =>
  (zldX L xs (x3 + (1 : Int32))).bind fun v16 =>
  (zldX L xs (x3 + (2 : Int32))).bind fun v17 =>
  (zldX L xs (x3 + (3 : Int32))).bind fun v18 =>
  if v18 = 0 then (
    j_L_law_318 L xs n1 n2 x3 q15.1 (some n2) v16 v17 (0 : Int32) q15.2
  ) else (
    j_L_law_318 L xs n1 n2 x3 q15.1 (some n2) v16 v17 (1 : Int32) q15.2
  )
def j_L_law_267 (L : Nat) (xs : Nat → Int32) (n1 : Nat) (n2 : Nat) (x3 : Int32)  (S : ZH) : Option ((Int32 × ZH) ⊕ (ZH)) :=
  (zldX L xs (x3 + (1 : Int32))).bind fun v11 =>
  (zldX L xs (x3 + (2 : Int32))).bind fun v12 =>
  (zldX L xs (x3 + (3 : Int32))).bind fun v13 =>
  if v13 = 0 then (
    j_L_law_291 L xs n1 n2 x3 (some n1) v11 v12 (0 : Int32) S
  ) else (
    j_L_law_291 L xs n1 n2 x3 (some n1) v11 v12 (1 : Int32) S
  )
def j_L_law_326 (L : Nat) (xs : Nat → Int32) (n1 : Nat) (n2 : Nat) (x3 : Int32)  (S : ZH) : Option ((Int32 × ZH) ⊕ (ZH)) :=
  (zldX L xs (x3 + (1 : Int32))).bind fun v22 =>
  (zldX L xs (x3 + (2 : Int32))).bind fun v23 =>
  (f_X11_far n1 v22 v23 S).bind fun q24 =>
  (zldX L xs (x3 + (1 : Int32))).bind fun v25 =>
  (zldX L xs (x3 + (2 : Int32))).bind fun v26 =>
  (f_X12_far n2 v25 v26 q24.2).bind fun q27 =>
  if q24.1 = q27.1 then (
    some (Sum.inl ((x3 + 10), q27.2))
  ) else (
    none
  )
def j_L_law_359 (L : Nat) (xs : Nat → Int32) (n1 : Nat) (n2 : Nat) (x3 : Int32)  (S : ZH) : Option ((Int32 × ZH) ⊕ (ZH)) :=
  (zldX L xs (x3 + (1 : Int32))).bind fun v29 =>
  (zldX L xs (x3 + (2 : Int32))).bind fun v30 =>
  (zldX L xs (x3 + (3 : Int32))).bind fun v31 =>
  (zldX L xs (x3 + (4 : Int32))).bind fun v32 =>
  (zldX L xs (x3 + (5 : Int32))).bind fun v33 =>
  (zldX L xs (x3 + (6 : Int32))).bind fun v34 =>
  (zldX L xs (x3 + (7 : Int32))).bind fun v35 =>
  (f_X11_man n1 v29 v30 v31 v32 v33 v34 v35 S).bind fun q36 =>
  (zldX L xs (x3 + (1 : Int32))).bind fun v37 =>
  (zldX L xs (x3 + (2 : Int32))).bind fun v38 =>
  (zldX L xs (x3 + (3 : Int32))).bind fun v39 =>
  (zldX L xs (x3 + (4 : Int32))).bind fun v40 =>
  (zldX L xs (x3 + (5 : Int32))).bind fun v41 =>
  (zldX L xs (x3 + (6 : Int32))).bind fun v42 =>
  (zldX L xs (x3 + (7 : Int32))).bind fun v43 =>
  (f_X12_man n2 v37 v38 v39 v40 v41 v42 v43 q36.2).bind fun q44 =>
  if q36.1 = q44.1 then (
    some (Sum.inl ((x3 + 10), q44.2))
  ) else (
    none
  )
def j_L_law_446 (L : Nat) (xs : Nat → Int32) (n1 : Nat) (n2 : Nat) (x3 : Int32)  (S : ZH) : Option ((Int32 × ZH) ⊕ (ZH)) :=
  (zldX L xs (x3 + (1 : Int32))).bind fun v46 =>
  (zldX L xs (x3 + (2 : Int32))).bind fun v47 =>
  (f_X11_about n1 v46 v47 S).bind fun q48 =>
  (zldX L xs (x3 + (1 : Int32))).bind fun v49 =>
  (zldX L xs (x3 + (2 : Int32))).bind fun v50 =>
  (f_X12_about n2 v49 v50 S).bind fun q51 =>
  if q48 = q51.1 then (
    some (Sum.inl ((x3 + 10), q51.2))
  ) else (
    none
  )
def j_L_law_520 (L : Nat) (xs : Nat → Int32) (n1 : Nat) (n2 : Nat) (x3 : Int32) (s0 : Int32) (s1 : Option Nat) (s2 : Int32) (s3 : Int32) (S : ZH) : Option ((Int32 × ZH) ⊕ (ZH)) :=
  (s1).bind fun a59 =>
  (f_X12_shy a59 s2 s3 S).bind fun q60 =>
  if s0 = q60.1 then (
    some (Sum.inl ((x3 + 10), q60.2))
  ) else (
    none
  )
def j_L_law_498 (L : Nat) (xs : Nat → Int32) (n1 : Nat) (n2 : Nat) (x3 : Int32) (s0 : Option Nat) (s1 : Int32) (s2 : Int32) (S : ZH) : Option ((Int32 × ZH) ⊕ (ZH)) :=
  (s0).bind fun a55 =>
  (f_X11_shy a55 s1 s2 S).bind fun q56 =>
  (zldX L xs (x3 + (1 : Int32))).bind fun v57 =>
  (zldX L xs (x3 + (2 : Int32))).bind fun v58 =>
  if v58 = 0 then (
    j_L_law_520 L xs n1 n2 x3 q56.1 (some n2) v57 (0 : Int32) q56.2
  ) else (
    j_L_law_520 L xs n1 n2 x3 q56.1 (some n2) v57 (1 : Int32) q56.2
  )
def j_L_law_479 (L : Nat) (xs : Nat → Int32) (n1 : Nat) (n2 : Nat) (x3 : Int32)  (S : ZH) : Option ((Int32 × ZH) ⊕ (ZH)) :=
  (zldX L xs (x3 + (1 : Int32))).bind fun v53 =>
  (zldX L xs (x3 + (2 : Int32))).bind fun v54 =>
  if v54 = 0 then (
    j_L_law_498 L xs n1 n2 x3 (some n1) v53 (0 : Int32) S
  ) else (
    j_L_law_498 L xs n1 n2 x3 (some n1) v53 (1 : Int32) S
  )
def j_L_law_528 (L : Nat) (xs : Nat → Int32) (n1 : Nat) (n2 : Nat) (x3 : Int32)  (S : ZH) : Option ((Int32 × ZH) ⊕ (ZH)) :=
  (zldX L xs (x3 + (1 : Int32))).bind fun v62 =>
  (zldX L xs (x3 + (2 : Int32))).bind fun v63 =>
  (f_X11_where n1 v62 v63 S).bind fun q64 =>
  (zldX L xs (x3 + (1 : Int32))).bind fun v65 =>
  (zldX L xs (x3 + (2 : Int32))).bind fun v66 =>
  (f_X12_where n2 v65 v66 S).bind fun q67 =>
  if q64 = q67.1 then (
    some (Sum.inl ((x3 + 10), q67.2))
  ) else (
    none
  )
def j_L_law_561 (L : Nat) (xs : Nat → Int32) (n1 : Nat) (n2 : Nat) (x3 : Int32)  (S : ZH) : Option ((Int32 × ZH) ⊕ (ZH)) :=
  (zldX L xs (x3 + (1 : Int32))).bind fun v69 =>
  (f_X11_at n1 v69 S).bind fun q70 =>
  (zldX L xs (x3 + (1 : Int32))).bind fun v71 =>
  (f_X12_at n2 v71 S).bind fun q72 =>
  if q70 = q72.1 then (
    some (Sum.inl ((x3 + 10), q72.2))
  ) else (
    none
  )
def j_L_law_584 (L : Nat) (xs : Nat → Int32) (n1 : Nat) (n2 : Nat) (x3 : Int32)  (S : ZH) : Option ((Int32 × ZH) ⊕ (ZH)) :=
  (f_X11_tide n1 S).bind fun q74 =>
  (f_X12_tide n2 S).bind fun q75 =>
  if q74 = q75.1 then (
    some (Sum.inl ((x3 + 10), q75.2))
  ) else (
    none
  )
def j_L_law_597 (L : Nat) (xs : Nat → Int32) (n1 : Nat) (n2 : Nat) (x3 : Int32)  (S : ZH) : Option ((Int32 × ZH) ⊕ (ZH)) :=
  (zldX L xs (x3 + (1 : Int32))).bind fun v77 =>
  (f_X11_pass n1 v77 S).bind fun q78 =>
  (zldX L xs (x3 + (1 : Int32))).bind fun v79 =>
  (f_X12_pass n2 v79 q78.2).bind fun q80 =>
  if q78.1 = q80.1 then (
    some (Sum.inl ((x3 + 10), q80.2))
  ) else (
    none
  )
def j_L_law_620 (L : Nat) (xs : Nat → Int32) (n1 : Nat) (n2 : Nat) (x3 : Int32)  (S : ZH) : Option ((Int32 × ZH) ⊕ (ZH)) :=
  (zldX L xs (x3 + (1 : Int32))).bind fun v82 =>
  (zldX L xs (x3 + (2 : Int32))).bind fun v83 =>
  (f_X11_walk n1 v82 v83 S).bind fun q84 =>
  (zldX L xs (x3 + (1 : Int32))).bind fun v85 =>
  (zldX L xs (x3 + (2 : Int32))).bind fun v86 =>
  (f_X12_walk n2 v85 v86 q84.2).bind fun q87 =>
  if q84.1 = q87.1 then (
    some (Sum.inl ((x3 + 10), q87.2))
  ) else (
    none
  )
def j_L_law_653 (L : Nat) (xs : Nat → Int32) (n1 : Nat) (n2 : Nat) (x3 : Int32)  (S : ZH) : Option ((Int32 × ZH) ⊕ (ZH)) :=
  (zldX L xs (x3 + (1 : Int32))).bind fun v89 =>
  (f_X11_run n1 v89 S).bind fun q90 =>
  (zldX L xs (x3 + (1 : Int32))).bind fun v91 =>
  (f_X12_run n2 v91 q90.2).bind fun q92 =>
  if q90.1 = q92.1 then (
    some (Sum.inl ((x3 + 10), q92.2))
  ) else (
    none
  )
def j_L_law_676 (L : Nat) (xs : Nat → Int32) (n1 : Nat) (n2 : Nat) (x3 : Int32)  (S : ZH) : Option ((Int32 × ZH) ⊕ (ZH)) :=
  (zldX L xs (x3 + (1 : Int32))).bind fun v94 =>
  (zldX L xs (x3 + (2 : Int32))).bind fun v95 =>
  (zldX L xs (x3 + (3 : Int32))).bind fun v96 =>
  (zldX L xs (x3 + (4 : Int32))).bind fun v97 =>
  (zldX L xs (x3 + (5 : Int32))).bind fun v98 =>
  (zldX L xs (x3 + (6 : Int32))).bind fun v99 =>
  (zldX L xs (x3 + (7 : Int32))).bind fun v100 =>
  (zldX L xs (x3 + (8 : Int32))).bind fun v101 =>
  (zldX L xs (x3 + (9 : Int32))).bind fun v102 =>
  (f_X11_paper n1 v94 v95 v96 v97 v98 v99 v100 v101 v102 S).bind fun q103 =>
  (zldX L xs (x3 + (1 : Int32))).bind fun v104 =>
  (zldX L xs (x3 + (2 : Int32))).bind fun v105 =>
  (zldX L xs (x3 + (3 : Int32))).bind fun v106 =>
  (zldX L xs (x3 + (4 : Int32))).bind fun v107 =>
  (zldX L xs (x3 + (5 : Int32))).bind fun v108 =>
  (zldX L xs (x3 + (6 : Int32))).bind fun v109 =>
  (zldX L xs (x3 + (7 : Int32))).bind fun v110 =>
  (zldX L xs (x3 + (8 : Int32))).bind fun v111 =>
  (zldX L xs (x3 + (9 : Int32))).bind fun v112 =>
  (f_X12_paper n2 v104 v105 v106 v107 v108 v109 v110 v111 v112 q103.2).bind fun q113 =>
  if q103.1 = q113.1 then (
    some (Sum.inl ((x3 + 10), q113.2))
  ) else (
    none
  )
def j_L_law_787 (L : Nat) (xs : Nat → Int32) (n1 : Nat) (n2 : Nat) (x3 : Int32)  (S : ZH) : Option ((Int32 × ZH) ⊕ (ZH)) :=
  (zldX L xs (x3 + (1 : Int32))).bind fun v115 =>
  (zldX L xs (x3 + (2 : Int32))).bind fun v116 =>
  (zldX L xs (x3 + (3 : Int32))).bind fun v117 =>
  (f_X11_cover n1 v115 v116 v117 S).bind fun q118 =>
  (zldX L xs (x3 + (1 : Int32))).bind fun v119 =>
  (zldX L xs (x3 + (2 : Int32))).bind fun v120 =>
  (zldX L xs (x3 + (3 : Int32))).bind fun v121 =>
  (f_X12_cover n2 v119 v120 v121 S).bind fun q122 =>
  if q118 = q122.1 then (
    some (Sum.inl ((x3 + 10), q122.2))
  ) else (
    none
  )
def j_L_law_830 (L : Nat) (xs : Nat → Int32) (n1 : Nat) (n2 : Nat) (x3 : Int32)  (S : ZH) : Option ((Int32 × ZH) ⊕ (ZH)) :=
  (zldX L xs (x3 + (1 : Int32))).bind fun v124 =>
  (zldX L xs (x3 + (2 : Int32))).bind fun v125 =>
  (f_X11_same n1 v124 v125 S).bind fun q126 =>
  (zldX L xs (x3 + (1 : Int32))).bind fun v127 =>
  (zldX L xs (x3 + (2 : Int32))).bind fun v128 =>
  (f_X12_same n2 v127 v128 S).bind fun q129 =>
  if q126 = q129.1 then (
    some (Sum.inl ((x3 + 10), q129.2))
  ) else (
    none
  )
def j_L_law_863 (L : Nat) (xs : Nat → Int32) (n1 : Nat) (n2 : Nat) (x3 : Int32)  (S : ZH) : Option ((Int32 × ZH) ⊕ (ZH)) :=
  (zldX L xs (x3 + (1 : Int32))).bind fun v131 =>
  (zldX L xs (x3 + (2 : Int32))).bind fun v132 =>
  (f_X11_shown n1 v131 v132 S).bind fun q133 =>
  (zldX L xs (x3 + (1 : Int32))).bind fun v134 =>
  (zldX L xs (x3 + (2 : Int32))).bind fun v135 =>
  (f_X12_shown n2 v134 v135 S).bind fun q136 =>
  if q133 = q136.1 then (
    some (Sum.inl ((x3 + 10), q136.2))
  ) else (
    none
  )
def j_L_law_896 (L : Nat) (xs : Nat → Int32) (n1 : Nat) (n2 : Nat) (x3 : Int32)  (S : ZH) : Option ((Int32 × ZH) ⊕ (ZH)) :=
  (zldX L xs (x3 + (1 : Int32))).bind fun v138 =>
  (f_X11_act n1 v138 S).bind fun q139 =>
  (zldX L xs (x3 + (1 : Int32))).bind fun v140 =>
  (f_X12_act n2 v140 q139.2).bind fun q141 =>
  if q139.1 = q141.1 then (
    some (Sum.inl ((x3 + 10), q141.2))
  ) else (
    none
  )
def j_L_law_919 (L : Nat) (xs : Nat → Int32) (n1 : Nat) (n2 : Nat) (x3 : Int32)  (S : ZH) : Option ((Int32 × ZH) ⊕ (ZH)) :=
  (zldX L xs (x3 + (1 : Int32))).bind fun v143 =>
  (zldX L xs (x3 + (2 : Int32))).bind fun v144 =>
  (f_X11_sign n1 v143 v144 S).bind fun q145 =>
  (zldX L xs (x3 + (1 : Int32))).bind fun v146 =>
  (zldX L xs (x3 + (2 : Int32))).bind fun v147 =>
  (f_X12_sign n2 v146 v147 q145.2).bind fun q148 =>
  if q145.1 = q148.1 then (
    some (Sum.inl ((x3 + 10), q148.2))
  ) else (
    none
  )
def j_L_law_952 (L : Nat) (xs : Nat → Int32) (n1 : Nat) (n2 : Nat) (x3 : Int32)  (S : ZH) : Option ((Int32 × ZH) ⊕ (ZH)) :=
  (zldX L xs (x3 + (1 : Int32))).bind fun v150 =>
  (f_X11_fault n1 v150 S).bind fun q151 =>
  (zldX L xs (x3 + (1 : Int32))).bind fun v152 =>
  (f_X12_fault n2 v152 S).bind fun q153 =>
  if q151 = q153.1 then (
    some (Sum.inl ((x3 + 10), q153.2))
  ) else (
    none
  )
def j_L_law_975 (L : Nat) (xs : Nat → Int32) (n1 : Nat) (n2 : Nat) (x3 : Int32)  (S : ZH) : Option ((Int32 × ZH) ⊕ (ZH)) :=
  (zldX L xs (x3 + (1 : Int32))).bind fun v155 =>
  (f_X11_force n1 v155 S).bind fun q156 =>
  (zldX L xs (x3 + (1 : Int32))).bind fun v157 =>
  (f_X12_force n2 v157 S).bind fun q158 =>
  if q156 = q158.1 then (
    some (Sum.inl ((x3 + 10), q158.2))
  ) else (
    none
  )
def j_L_law_998 (L : Nat) (xs : Nat → Int32) (n1 : Nat) (n2 : Nat) (x3 : Int32)  (S : ZH) : Option ((Int32 × ZH) ⊕ (ZH)) :=
  (zldX L xs (x3 + (1 : Int32))).bind fun v160 =>
  (zldX L xs (x3 + (2 : Int32))).bind fun v161 =>
  (f_X11_may n1 v160 v161 S).bind fun q162 =>
  (zldX L xs (x3 + (1 : Int32))).bind fun v163 =>
  (zldX L xs (x3 + (2 : Int32))).bind fun v164 =>
  (f_X12_may n2 v163 v164 S).bind fun q165 =>
  if q162 = q165.1 then (
    some (Sum.inl ((x3 + 10), q165.2))
  ) else (
    none
  )
def j_L_law_1031 (L : Nat) (xs : Nat → Int32) (n1 : Nat) (n2 : Nat) (x3 : Int32)  (S : ZH) : Option ((Int32 × ZH) ⊕ (ZH)) :=
  (zldX L xs (x3 + (1 : Int32))).bind fun v167 =>
  (f_X11_mayTruly n1 v167 S).bind fun q168 =>
  (zldX L xs (x3 + (1 : Int32))).bind fun v169 =>
  (f_X12_mayTruly n2 v169 S).bind fun q170 =>
  if q168 = q170.1 then (
    some (Sum.inl ((x3 + 10), q170.2))
  ) else (
    none
  )
def j_L_law_1054 (L : Nat) (xs : Nat → Int32) (n1 : Nat) (n2 : Nat) (x3 : Int32)  (S : ZH) : Option ((Int32 × ZH) ⊕ (ZH)) :=
  (zldX L xs (x3 + (1 : Int32))).bind fun v172 =>
  (zldX L xs (x3 + (2 : Int32))).bind fun v173 =>
  (f_X11_take n1 v172 v173 S).bind fun q174 =>
  (zldX L xs (x3 + (1 : Int32))).bind fun v175 =>
  (zldX L xs (x3 + (2 : Int32))).bind fun v176 =>
  (f_X12_take n2 v175 v176 q174.2).bind fun q177 =>
  if q174.1 = q177.1 then (
    some (Sum.inl ((x3 + 10), q177.2))
  ) else (
    none
  )
def j_L_law_1087 (L : Nat) (xs : Nat → Int32) (n1 : Nat) (n2 : Nat) (x3 : Int32)  (S : ZH) : Option ((Int32 × ZH) ⊕ (ZH)) :=
  (zldX L xs (x3 + (1 : Int32))).bind fun v179 =>
  (zldX L xs (x3 + (2 : Int32))).bind fun v180 =>
  (f_X11_taking n1 v179 v180 S).bind fun q181 =>
  (zldX L xs (x3 + (1 : Int32))).bind fun v182 =>
  (zldX L xs (x3 + (2 : Int32))).bind fun v183 =>
  (f_X12_taking n2 v182 v183 S).bind fun q184 =>
  if q181 = q184.1 then (
    some (Sum.inl ((x3 + 10), q184.2))
  ) else (
    none
  )
def j_L_law_1120 (L : Nat) (xs : Nat → Int32) (n1 : Nat) (n2 : Nat) (x3 : Int32)  (S : ZH) : Option ((Int32 × ZH) ⊕ (ZH)) :=
  (f_X11_wronged n1 S).bind fun q186 =>
  (f_X12_wronged n2 S).bind fun q187 =>
  if q186 = q187.1 then (
    some (Sum.inl ((x3 + 10), q187.2))
  ) else (
    none
  )
def j_L_law_1133 (L : Nat) (xs : Nat → Int32) (n1 : Nat) (n2 : Nat) (x3 : Int32)  (S : ZH) : Option ((Int32 × ZH) ⊕ (ZH)) :=
  (zldX L xs (x3 + (1 : Int32))).bind fun v189 =>
  (f_X11_wrongedMan n1 v189 S).bind fun q190 =>
  (zldX L xs (x3 + (1 : Int32))).bind fun v191 =>
  (f_X12_wrongedMan n2 v191 S).bind fun q192 =>
  if q190 = q192.1 then (
    some (Sum.inl ((x3 + 10), q192.2))
  ) else (
    none
  )
def j_L_law_1156 (L : Nat) (xs : Nat → Int32) (n1 : Nat) (n2 : Nat) (x3 : Int32)  (S : ZH) : Option ((Int32 × ZH) ⊕ (ZH)) :=
  (zldX L xs (x3 + (1 : Int32))).bind fun v194 =>
  (f_X11_letGo n1 v194 S).bind fun q195 =>
  (zldX L xs (x3 + (1 : Int32))).bind fun v196 =>
  (f_X12_letGo n2 v196 q195.2).bind fun q197 =>
  if q195.1 = q197.1 then (
    some (Sum.inl ((x3 + 10), q197.2))
  ) else (
    none
  )
def j_L_law_1179 (L : Nat) (xs : Nat → Int32) (n1 : Nat) (n2 : Nat) (x3 : Int32)  (S : ZH) : Option ((Int32 × ZH) ⊕ (ZH)) :=
  (f_X11_quiet n1 S).bind fun q199 =>
  (f_X12_quiet n2 q199.2).bind fun q200 =>
  if q199.1 = q200.1 then (
    some (Sum.inl ((x3 + 10), q200.2))
  ) else (
    none
  )
def j_L_law_1192 (L : Nat) (xs : Nat → Int32) (n1 : Nat) (n2 : Nat) (x3 : Int32)  (S : ZH) : Option ((Int32 × ZH) ⊕ (ZH)) :=
  (zldX L xs (x3 + (1 : Int32))).bind fun v202 =>
  (f_X11_heard n1 v202 S).bind fun q203 =>
  (zldX L xs (x3 + (1 : Int32))).bind fun v204 =>
  (f_X12_heard n2 v204 q203.2).bind fun q205 =>
  if q203.1 = q205.1 then (
    some (Sum.inl ((x3 + 10), q205.2))
  ) else (
    none
  )
def j_L_law_1215 (L : Nat) (xs : Nat → Int32) (n1 : Nat) (n2 : Nat) (x3 : Int32)  (S : ZH) : Option ((Int32 × ZH) ⊕ (ZH)) :=
  (zldX L xs (x3 + (1 : Int32))).bind fun v207 =>
  (zldX L xs (x3 + (2 : Int32))).bind fun v208 =>
  (f_X11_tender n1 v207 v208 S).bind fun q209 =>
  (zldX L xs (x3 + (1 : Int32))).bind fun v210 =>
  (zldX L xs (x3 + (2 : Int32))).bind fun v211 =>
  (f_X12_tender n2 v210 v211 q209.2).bind fun q212 =>
  if q209.1 = q212.1 then (
    some (Sum.inl ((x3 + 10), q212.2))
  ) else (
    none
  )
def j_L_law_1248 (L : Nat) (xs : Nat → Int32) (n1 : Nat) (n2 : Nat) (x3 : Int32)  (S : ZH) : Option ((Int32 × ZH) ⊕ (ZH)) :=
  (zldX L xs (x3 + (1 : Int32))).bind fun v214 =>
  (zldX L xs (x3 + (2 : Int32))).bind fun v215 =>
  (f_X11_met n1 v214 v215 S).bind fun q216 =>
  (zldX L xs (x3 + (1 : Int32))).bind fun v217 =>
  (zldX L xs (x3 + (2 : Int32))).bind fun v218 =>
  (f_X12_met n2 v217 v218 q216.2).bind fun q219 =>
  if q216.1 = q219.1 then (
    some (Sum.inl ((x3 + 10), q219.2))
  ) else (
    none
  )
def j_L_law_1281 (L : Nat) (xs : Nat → Int32) (n1 : Nat) (n2 : Nat) (x3 : Int32)  (S : ZH) : Option ((Int32 × ZH) ⊕ (ZH)) :=
  (zldX L xs (x3 + (1 : Int32))).bind fun v221 =>
  (zldX L xs (x3 + (2 : Int32))).bind fun v222 =>
  (zldX L xs (x3 + (3 : Int32))).bind fun v223 =>
  (zldX L xs (x3 + (4 : Int32))).bind fun v224 =>
  (f_X11_laid n1 v221 v222 v223 v224 S).bind fun q225 =>
  (zldX L xs (x3 + (1 : Int32))).bind fun v226 =>
  (zldX L xs (x3 + (2 : Int32))).bind fun v227 =>
  (zldX L xs (x3 + (3 : Int32))).bind fun v228 =>
  (zldX L xs (x3 + (4 : Int32))).bind fun v229 =>
  (f_X12_laid n2 v226 v227 v228 v229 q225.2).bind fun q230 =>
  if q225.1 = q230.1 then (
    some (Sum.inl ((x3 + 10), q230.2))
  ) else (
    none
  )
def j_L_law_1334 (L : Nat) (xs : Nat → Int32) (n1 : Nat) (n2 : Nat) (x3 : Int32)  (S : ZH) : Option ((Int32 × ZH) ⊕ (ZH)) :=
  (zldX L xs (x3 + (1 : Int32))).bind fun v232 =>
  (zldX L xs (x3 + (2 : Int32))).bind fun v233 =>
  (zldX L xs (x3 + (3 : Int32))).bind fun v234 =>
  (zldX L xs (x3 + (4 : Int32))).bind fun v235 =>
  (f_X11_ship n1 v232 v233 v234 v235 S).bind fun q236 =>
  (zldX L xs (x3 + (1 : Int32))).bind fun v237 =>
  (zldX L xs (x3 + (2 : Int32))).bind fun v238 =>
  (zldX L xs (x3 + (3 : Int32))).bind fun v239 =>
  (zldX L xs (x3 + (4 : Int32))).bind fun v240 =>
  (f_X12_ship n2 v237 v238 v239 v240 q236.2).bind fun q241 =>
  if q236.1 = q241.1 then (
    some (Sum.inl ((x3 + 10), q241.2))
  ) else (
    none
  )
def j_L_law_1387 (L : Nat) (xs : Nat → Int32) (n1 : Nat) (n2 : Nat) (x3 : Int32)  (S : ZH) : Option ((Int32 × ZH) ⊕ (ZH)) :=
  (zldX L xs (x3 + (1 : Int32))).bind fun v243 =>
  (zldX L xs (x3 + (2 : Int32))).bind fun v244 =>
  (f_X11_of n1 v243 v244 S).bind fun q245 =>
  (zldX L xs (x3 + (1 : Int32))).bind fun v246 =>
  (zldX L xs (x3 + (2 : Int32))).bind fun v247 =>
  (f_X12_of n2 v246 v247 S).bind fun q248 =>
  if q245 = q248.1 then (
    some (Sum.inl ((x3 + 10), q248.2))
  ) else (
    none
  )
def j_L_law_1420 (L : Nat) (xs : Nat → Int32) (n1 : Nat) (n2 : Nat) (x3 : Int32)  (S : ZH) : Option ((Int32 × ZH) ⊕ (ZH)) :=
  (zldX L xs (x3 + (1 : Int32))).bind fun v250 =>
  (zldX L xs (x3 + (2 : Int32))).bind fun v251 =>
  (f_X11_spare n1 v250 v251 S).bind fun q252 =>
  (zldX L xs (x3 + (1 : Int32))).bind fun v253 =>
  (zldX L xs (x3 + (2 : Int32))).bind fun v254 =>
  (f_X12_spare n2 v253 v254 S).bind fun q255 =>
  if q252 = q255.1 then (
    some (Sum.inl ((x3 + 10), q255.2))
  ) else (
    none
  )
def j_L_law_1453 (L : Nat) (xs : Nat → Int32) (n1 : Nat) (n2 : Nat) (x3 : Int32)  (S : ZH) : Option ((Int32 × ZH) ⊕ (ZH)) :=
  (zldX L xs (x3 + (1 : Int32))).bind fun v257 =>
  (zldX L xs (x3 + (2 : Int32))).bind fun v258 =>
  (f_X11_board n1 v257 v258 S).bind fun q259 =>
  (zldX L xs (x3 + (1 : Int32))).bind fun v260 =>
  (zldX L xs (x3 + (2 : Int32))).bind fun v261 =>
  (f_X12_board n2 v260 v261 q259.2).bind fun q262 =>
  if q259.1 = q262.1 then (
    some (Sum.inl ((x3 + 10), q262.2))
  ) else (
    none
  )
def j_L_law_1486 (L : Nat) (xs : Nat → Int32) (n1 : Nat) (n2 : Nat) (x3 : Int32)  (S : ZH) : Option ((Int32 × ZH) ⊕ (ZH)) :=
  (zldX L xs (x3 + (1 : Int32))).bind fun v264 =>
  (zldX L xs (x3 + (2 : Int32))).bind fun v265 =>
  (f_X11_turn n1 v264 v265 S).bind fun q266 =>
  (zldX L xs (x3 + (1 : Int32))).bind fun v267 =>
  (zldX L xs (x3 + (2 : Int32))).bind fun v268 =>
  (f_X12_turn n2 v267 v268 q266.2).bind fun q269 =>
  if q266.1 = q269.1 then (
    some (Sum.inl ((x3 + 10), q269.2))
  ) else (
    none
  )
def j_L_law_1519 (L : Nat) (xs : Nat → Int32) (n1 : Nat) (n2 : Nat) (x3 : Int32)  (S : ZH) : Option ((Int32 × ZH) ⊕ (ZH)) :=
  (zldX L xs (x3 + (1 : Int32))).bind fun v271 =>
  (zldX L xs (x3 + (2 : Int32))).bind fun v272 =>
  (f_X11_notAshore n1 v271 v272 S).bind fun q273 =>
  (zldX L xs (x3 + (1 : Int32))).bind fun v274 =>
  (zldX L xs (x3 + (2 : Int32))).bind fun v275 =>
  (f_X12_notAshore n2 v274 v275 S).bind fun q276 =>
  if q273 = q276.1 then (
    some (Sum.inl ((x3 + 10), q276.2))
  ) else (
    none
  )
def j_L_law_1552 (L : Nat) (xs : Nat → Int32) (n1 : Nat) (n2 : Nat) (x3 : Int32)  (S : ZH) : Option ((Int32 × ZH) ⊕ (ZH)) :=
  (zldX L xs (x3 + (1 : Int32))).bind fun v278 =>
  (zldX L xs (x3 + (2 : Int32))).bind fun v279 =>
  (f_X11_taken n1 v278 v279 S).bind fun q280 =>
  (zldX L xs (x3 + (1 : Int32))).bind fun v281 =>
  (zldX L xs (x3 + (2 : Int32))).bind fun v282 =>
  (f_X12_taken n2 v281 v282 q280.2).bind fun q283 =>
  if q280.1 = q283.1 then (
    some (Sum.inl ((x3 + 10), q283.2))
  ) else (
    none
  )
def j_L_law_1585 (L : Nat) (xs : Nat → Int32) (n1 : Nat) (n2 : Nat) (x3 : Int32)  (S : ZH) : Option ((Int32 × ZH) ⊕ (ZH)) :=
  (zldX L xs (x3 + (1 : Int32))).bind fun v285 =>
  (f_X11_fleet n1 v285 S).bind fun q286 =>
  (zldX L xs (x3 + (1 : Int32))).bind fun v287 =>
  (f_X12_fleet n2 v287 q286.2).bind fun q288 =>
  if q286.1 = q288.1 then (
    some (Sum.inl ((x3 + 10), q288.2))
  ) else (
    none
  )
def j_L_law_1608 (L : Nat) (xs : Nat → Int32) (n1 : Nat) (n2 : Nat) (x3 : Int32)  (S : ZH) : Option ((Int32 × ZH) ⊕ (ZH)) :=
  (zldX L xs (x3 + (1 : Int32))).bind fun v290 =>
  (f_X11_sail n1 v290 S).bind fun q291 =>
  (zldX L xs (x3 + (1 : Int32))).bind fun v292 =>
  (f_X12_sail n2 v292 q291.2).bind fun q293 =>
  if q291.1 = q293.1 then (
    some (Sum.inl ((x3 + 10), q293.2))
  ) else (
    none
  )
def j_L_law_1631 (L : Nat) (xs : Nat → Int32) (n1 : Nat) (n2 : Nat) (x3 : Int32)  (S : ZH) : Option ((Int32 × ZH) ⊕ (ZH)) :=
  (zldX L xs (x3 + (1 : Int32))).bind fun v295 =>
  (f_X11_comeHome n1 v295 S).bind fun q296 =>
  (zldX L xs (x3 + (1 : Int32))).bind fun v297 =>
  (f_X12_comeHome n2 v297 q296.2).bind fun q298 =>
  if q296.1 = q298.1 then (
    some (Sum.inl ((x3 + 10), q298.2))
  ) else (
    none
  )
def j_L_law_1654 (L : Nat) (xs : Nat → Int32) (n1 : Nat) (n2 : Nat) (x3 : Int32)  (S : ZH) : Option ((Int32 × ZH) ⊕ (ZH)) :=
  (zldX L xs (x3 + (1 : Int32))).bind fun v300 =>
  (zldX L xs (x3 + (2 : Int32))).bind fun v301 =>
  (zldX L xs (x3 + (3 : Int32))).bind fun v302 =>
  (f_X11_ticket n1 v300 v301 v302 S).bind fun q303 =>
  (zldX L xs (x3 + (1 : Int32))).bind fun v304 =>
  (zldX L xs (x3 + (2 : Int32))).bind fun v305 =>
  (zldX L xs (x3 + (3 : Int32))).bind fun v306 =>
  (f_X12_ticket n2 v304 v305 v306 q303.2).bind fun q307 =>
  if q303.1 = q307.1 then (
    some (Sum.inl ((x3 + 10), q307.2))
  ) else (
    none
  )
def j_L_law_1697 (L : Nat) (xs : Nat → Int32) (n1 : Nat) (n2 : Nat) (x3 : Int32)  (S : ZH) : Option ((Int32 × ZH) ⊕ (ZH)) :=
  (zldX L xs (x3 + (1 : Int32))).bind fun v309 =>
  (zldX L xs (x3 + (2 : Int32))).bind fun v310 =>
  (zldX L xs (x3 + (3 : Int32))).bind fun v311 =>
  (f_X11_sell n1 v309 v310 v311 S).bind fun q312 =>
  (zldX L xs (x3 + (1 : Int32))).bind fun v313 =>
  (zldX L xs (x3 + (2 : Int32))).bind fun v314 =>
  (zldX L xs (x3 + (3 : Int32))).bind fun v315 =>
  (f_X12_sell n2 v313 v314 v315 q312.2).bind fun q316 =>
  if q312.1 = q316.1 then (
    some (Sum.inl ((x3 + 10), q316.2))
  ) else (
    none
  )
def j_L_law_1740 (L : Nat) (xs : Nat → Int32) (n1 : Nat) (n2 : Nat) (x3 : Int32)  (S : ZH) : Option ((Int32 × ZH) ⊕ (ZH)) :=
  (zldX L xs (x3 + (1 : Int32))).bind fun v318 =>
  (zldX L xs (x3 + (2 : Int32))).bind fun v319 =>
  (f_X11_pay n1 v318 v319 S).bind fun q320 =>
  (zldX L xs (x3 + (1 : Int32))).bind fun v321 =>
  (zldX L xs (x3 + (2 : Int32))).bind fun v322 =>
  (f_X12_pay n2 v321 v322 q320.2).bind fun q323 =>
  if q320.1 = q323.1 then (
    some (Sum.inl ((x3 + 10), q323.2))
  ) else (
    none
  )
def j_L_law_1773 (L : Nat) (xs : Nat → Int32) (n1 : Nat) (n2 : Nat) (x3 : Int32)  (S : ZH) : Option ((Int32 × ZH) ⊕ (ZH)) :=
  (zldX L xs (x3 + (1 : Int32))).bind fun v325 =>
  (zldX L xs (x3 + (2 : Int32))).bind fun v326 =>
  (f_X11_ticketOf n1 v325 v326 S).bind fun q327 =>
  (zldX L xs (x3 + (1 : Int32))).bind fun v328 =>
  (zldX L xs (x3 + (2 : Int32))).bind fun v329 =>
  (f_X12_ticketOf n2 v328 v329 S).bind fun q330 =>
  if q327 = q330.1 then (
    some (Sum.inl ((x3 + 10), q330.2))
  ) else (
    none
  )
def j_L_law_1806 (L : Nat) (xs : Nat → Int32) (n1 : Nat) (n2 : Nat) (x3 : Int32)  (S : ZH) : Option ((Int32 × ZH) ⊕ (ZH)) :=
  (zldX L xs (x3 + (1 : Int32))).bind fun v332 =>
  (f_X11_purse n1 v332 S).bind fun q333 =>
  (zldX L xs (x3 + (1 : Int32))).bind fun v334 =>
  (f_X12_purse n2 v334 S).bind fun q335 =>
  if q333 = q335.1 then (
    some (Sum.inl ((x3 + 10), q335.2))
  ) else (
    none
  )
def j_L_law_1870 (L : Nat) (xs : Nat → Int32) (n1 : Nat) (n2 : Nat) (x3 : Int32) (s0 : Int32) (s1 : Option Nat) (s2 : Int32) (s3 : Int32) (S : ZH) : Option ((Int32 × ZH) ⊕ (ZH)) :=
  (s1).bind fun a343 =>
  (f_X12_wages a343 s2 s3 S).bind fun q344 =>
  if s0 = q344.1 then (
    some (Sum.inl ((x3 + 10), q344.2))
  ) else (
    none
  )
def j_L_law_1848 (L : Nat) (xs : Nat → Int32) (n1 : Nat) (n2 : Nat) (x3 : Int32) (s0 : Option Nat) (s1 : Int32) (s2 : Int32) (S : ZH) : Option ((Int32 × ZH) ⊕ (ZH)) :=
  (s0).bind fun a339 =>
  (f_X11_wages a339 s1 s2 S).bind fun q340 =>
  (zldX L xs (x3 + (1 : Int32))).bind fun v341 =>
  (zldX L xs (x3 + (2 : Int32))).bind fun v342 =>
  if v342 = 0 then (
    j_L_law_1870 L xs n1 n2 x3 q340 (some n2) v341 (0 : Int32) S
  ) else (
    j_L_law_1870 L xs n1 n2 x3 q340 (some n2) v341 (1 : Int32) S
  )
def j_L_law_1829 (L : Nat) (xs : Nat → Int32) (n1 : Nat) (n2 : Nat) (x3 : Int32)  (S : ZH) : Option ((Int32 × ZH) ⊕ (ZH)) :=
  (zldX L xs (x3 + (1 : Int32))).bind fun v337 =>
  (zldX L xs (x3 + (2 : Int32))).bind fun v338 =>
  if v338 = 0 then (
    j_L_law_1848 L xs n1 n2 x3 (some n1) v337 (0 : Int32) S
  ) else (
    j_L_law_1848 L xs n1 n2 x3 (some n1) v337 (1 : Int32) S
  )
def j_L_law_1878 (L : Nat) (xs : Nat → Int32) (n1 : Nat) (n2 : Nat) (x3 : Int32)  (S : ZH) : Option ((Int32 × ZH) ⊕ (ZH)) :=
  (zldX L xs (x3 + (1 : Int32))).bind fun v346 =>
  (f_X11_count n1 v346 S).bind fun q347 =>
  (zldX L xs (x3 + (1 : Int32))).bind fun v348 =>
  (f_X12_count n2 v348 S).bind fun q349 =>
  if q347 = q349.1 then (
    some (Sum.inl ((x3 + 10), q349.2))
  ) else (
    none
  )
def b_L_law_18 (L : Nat) (xs : Nat → Int32) (n1 : Nat) (n2 : Nat) (v : Int32 × ZH) : Option ((Int32 × ZH) ⊕ (ZH)) :=
  if ((nI L) - (10 : Int32)) < v.1 then (
    some (Sum.inr v.2)
  ) else (
    (zldX L xs v.1).bind fun v5 =>
    if (v5 &&& (63 : Int32)) = (0 : Int32) then (
      j_L_law_244 L xs n1 n2 v.1 v.2
    ) else (
      if (v5 &&& (63 : Int32)) = (1 : Int32) then (
        j_L_law_267 L xs n1 n2 v.1 v.2
      ) else (
        if (v5 &&& (63 : Int32)) = (2 : Int32) then (
          j_L_law_326 L xs n1 n2 v.1 v.2
        ) else (
          if (v5 &&& (63 : Int32)) = (3 : Int32) then (
            j_L_law_359 L xs n1 n2 v.1 v.2
          ) else (
            if (v5 &&& (63 : Int32)) = (4 : Int32) then (
              j_L_law_446 L xs n1 n2 v.1 v.2
            ) else (
              if (v5 &&& (63 : Int32)) = (5 : Int32) then (
                j_L_law_479 L xs n1 n2 v.1 v.2
              ) else (
                if (v5 &&& (63 : Int32)) = (6 : Int32) then (
                  j_L_law_528 L xs n1 n2 v.1 v.2
                ) else (
                  if (v5 &&& (63 : Int32)) = (7 : Int32) then (
                    j_L_law_561 L xs n1 n2 v.1 v.2
                  ) else (
                    if (v5 &&& (63 : Int32)) = (8 : Int32) then (
                      j_L_law_584 L xs n1 n2 v.1 v.2
                    ) else (
                      if (v5 &&& (63 : Int32)) = (9 : Int32) then (
                        j_L_law_597 L xs n1 n2 v.1 v.2
                      ) else (
                        if (v5 &&& (63 : Int32)) = (10 : Int32) then (
                          j_L_law_620 L xs n1 n2 v.1 v.2
                        ) else (
                          if (v5 &&& (63 : Int32)) = (11 : Int32) then (
                            j_L_law_653 L xs n1 n2 v.1 v.2
                          ) else (
                            if (v5 &&& (63 : Int32)) = (12 : Int32) then (
                              j_L_law_676 L xs n1 n2 v.1 v.2
                            ) else (
                              if (v5 &&& (63 : Int32)) = (13 : Int32) then (
                                j_L_law_787 L xs n1 n2 v.1 v.2
                              ) else (
                                if (v5 &&& (63 : Int32)) = (14 : Int32) then (
                                  j_L_law_830 L xs n1 n2 v.1 v.2
                                ) else (
                                  if (v5 &&& (63 : Int32)) = (15 : Int32) then (
                                    j_L_law_863 L xs n1 n2 v.1 v.2
                                  ) else (
                                    if (v5 &&& (63 : Int32)) = (16 : Int32) then (
                                      j_L_law_896 L xs n1 n2 v.1 v.2
                                    ) else (
                                      if (v5 &&& (63 : Int32)) = (17 : Int32) then (
                                        j_L_law_919 L xs n1 n2 v.1 v.2
                                      ) else (
                                        if (v5 &&& (63 : Int32)) = (18 : Int32) then (
                                          j_L_law_952 L xs n1 n2 v.1 v.2
                                        ) else (
                                          if (v5 &&& (63 : Int32)) = (19 : Int32) then (
                                            j_L_law_975 L xs n1 n2 v.1 v.2
                                          ) else (
                                            if (v5 &&& (63 : Int32)) = (20 : Int32) then (
                                              j_L_law_998 L xs n1 n2 v.1 v.2
                                            ) else (
                                              if (v5 &&& (63 : Int32)) = (21 : Int32) then (
                                                j_L_law_1031 L xs n1 n2 v.1 v.2
                                              ) else (
                                                if (v5 &&& (63 : Int32)) = (22 : Int32) then (
                                                  j_L_law_1054 L xs n1 n2 v.1 v.2
                                                ) else (
                                                  if (v5 &&& (63 : Int32)) = (23 : Int32) then (
                                                    j_L_law_1087 L xs n1 n2 v.1 v.2
                                                  ) else (
                                                    if (v5 &&& (63 : Int32)) = (24 : Int32) then (
                                                      j_L_law_1120 L xs n1 n2 v.1 v.2
                                                    ) else (
                                                      if (v5 &&& (63 : Int32)) = (25 : Int32) then (
                                                        j_L_law_1133 L xs n1 n2 v.1 v.2
                                                      ) else (
                                                        if (v5 &&& (63 : Int32)) = (26 : Int32) then (
                                                          j_L_law_1156 L xs n1 n2 v.1 v.2
                                                        ) else (
                                                          if (v5 &&& (63 : Int32)) = (27 : Int32) then (
                                                            j_L_law_1179 L xs n1 n2 v.1 v.2
                                                          ) else (
                                                            if (v5 &&& (63 : Int32)) = (28 : Int32) then (
                                                              j_L_law_1192 L xs n1 n2 v.1 v.2
                                                            ) else (
                                                              if (v5 &&& (63 : Int32)) = (29 : Int32) then (
                                                                j_L_law_1215 L xs n1 n2 v.1 v.2
                                                              ) else (
                                                                if (v5 &&& (63 : Int32)) = (30 : Int32) then (
                                                                  j_L_law_1248 L xs n1 n2 v.1 v.2
                                                                ) else (
                                                                  if (v5 &&& (63 : Int32)) = (31 : Int32) then (
                                                                    j_L_law_1281 L xs n1 n2 v.1 v.2
                                                                  ) else (
                                                                    if (v5 &&& (63 : Int32)) = (32 : Int32) then (
                                                                      j_L_law_1334 L xs n1 n2 v.1 v.2
                                                                    ) else (
                                                                      if (v5 &&& (63 : Int32)) = (33 : Int32) then (
                                                                        j_L_law_1387 L xs n1 n2 v.1 v.2
                                                                      ) else (
                                                                        if (v5 &&& (63 : Int32)) = (34 : Int32) then (
                                                                          j_L_law_1420 L xs n1 n2 v.1 v.2
                                                                        ) else (
                                                                          if (v5 &&& (63 : Int32)) = (35 : Int32) then (
                                                                            j_L_law_1453 L xs n1 n2 v.1 v.2
                                                                          ) else (
                                                                            if (v5 &&& (63 : Int32)) = (36 : Int32) then (
                                                                              j_L_law_1486 L xs n1 n2 v.1 v.2
                                                                            ) else (
                                                                              if (v5 &&& (63 : Int32)) = (37 : Int32) then (
                                                                                j_L_law_1519 L xs n1 n2 v.1 v.2
                                                                              ) else (
                                                                                if (v5 &&& (63 : Int32)) = (38 : Int32) then (
                                                                                  j_L_law_1552 L xs n1 n2 v.1 v.2
                                                                                ) else (
                                                                                  if (v5 &&& (63 : Int32)) = (39 : Int32) then (
                                                                                    j_L_law_1585 L xs n1 n2 v.1 v.2
                                                                                  ) else (
                                                                                    if (v5 &&& (63 : Int32)) = (40 : Int32) then (
                                                                                      j_L_law_1608 L xs n1 n2 v.1 v.2
                                                                                    ) else (
                                                                                      if (v5 &&& (63 : Int32)) = (41 : Int32) then (
                                                                                        j_L_law_1631 L xs n1 n2 v.1 v.2
                                                                                      ) else (
                                                                                        if (v5 &&& (63 : Int32)) = (42 : Int32) then (
                                                                                          j_L_law_1654 L xs n1 n2 v.1 v.2
                                                                                        ) else (
                                                                                          if (v5 &&& (63 : Int32)) = (43 : Int32) then (
                                                                                            j_L_law_1697 L xs n1 n2 v.1 v.2
                                                                                          ) else (
                                                                                            if (v5 &&& (63 : Int32)) = (44 : Int32) then (
                                                                                              j_L_law_1740 L xs n1 n2 v.1 v.2
                                                                                            ) else (
                                                                                              if (v5 &&& (63 : Int32)) = (45 : Int32) then (
                                                                                                j_L_law_1773 L xs n1 n2 v.1 v.2
                                                                                              ) else (
                                                                                                if (v5 &&& (63 : Int32)) = (46 : Int32) then (
                                                                                                  j_L_law_1806 L xs n1 n2 v.1 v.2
                                                                                                ) else (
                                                                                                  if (v5 &&& (63 : Int32)) = (47 : Int32) then (
                                                                                                    j_L_law_1829 L xs n1 n2 v.1 v.2
                                                                                                  ) else (
                                                                                                    if (v5 &&& (63 : Int32)) = (48 : Int32) then (
                                                                                                      j_L_law_1878 L xs n1 n2 v.1 v.2
                                                                                                    ) else (
                                                                                                      some (Sum.inl ((v.1 + 10), v.2))
                                                                                                    )
                                                                                                  )
                                                                                                )
                                                                                              )
                                                                                            )
                                                                                          )
                                                                                        )
                                                                                      )
                                                                                    )
                                                                                  )
                                                                                )
                                                                              )
                                                                            )
                                                                          )
                                                                        )
                                                                      )
                                                                    )
                                                                  )
                                                                )
                                                              )
                                                            )
                                                          )
                                                        )
                                                      )
                                                    )
                                                  )
                                                )
                                              )
                                            )
                                          )
                                        )
                                      )
                                    )
                                  )
                                )
                              )
                            )
                          )
                        )
                      )
                    )
                  )
                )
              )
            )
          )
        )
      )
    )
  )
def f_L_law (L : Nat) (xs : Nat → Int32) (S : ZH) : Option ZH :=
  (zal S 11 19).bind fun S1 =>
  (f_X11_init (zN S 11) S1).bind fun q2 =>
  (zal q2 12 39).bind fun S3 =>
  (f_X12_init (zN q2 12) S3).bind fun q4 =>
  (z_iter zFU (b_L_law_18 L xs (zN S 11) (zN q2 12)) ((0 : Int32), q4)).bind fun t351 =>
  some t351
set_option maxRecDepth 20000 in
theorem k_L_law_244 {L : Nat} {xs : Nat → Int32} {n1 : Nat} {n2 : Nat} {x3 : Int32}   {S : ZH} {z : (Int32 × ZH) ⊕ (ZH)} (h : j_L_law_244 L xs n1 n2 x3 S = some z) (k : Sum.elim (fun v : Int32 × ZH => Wp Y_L_law zE (z_FL L xs) 18 [(0, z_r 99 (some 0)), (1, z_r 11 (some n1)), (2, z_r 12 (some n2)), (3, z_i v.1)] [] v.2) (fun t => Wp Y_L_law zE (z_FL L xs) 1907 [] [] t) z) : Wp Y_L_law zE (z_FL L xs) 244 [(0, z_r 99 (some 0)), (1, z_r 11 (some n1)), (2, z_r 12 (some n2)), (3, z_i x3)] [] S := by
  unfold j_L_law_244 at h
  refine x_aload_n 1 dL_law_244 rfl rfl ?_
  refine x_aload_n 0 dL_law_245 rfl rfl ?_
  refine x_iload_n 3 dL_law_246 rfl rfl ?_
  refine x_iconst (v := (1 : Int32)) dL_law_247 (by decide) ?_
  refine x_iadd dL_law_248 ?_
  refine x_sld dL_law_249 h (fun v6 hv6 h => ?_)
  refine z_bnd h (fun q7 hq7 h => ?_)
  refine x_callV1 rfl (w_X11_streets hq7) cw_X11_streets q_248 ⟨by decide, by decide⟩ (Nat.le_of_ble_eq_true rfl) dL_law_250 rfl ?_
  refine x_aload_n 2 dL_law_253 rfl rfl ?_
  refine x_aload_n 0 dL_law_254 rfl rfl ?_
  refine x_iload_n 3 dL_law_255 rfl rfl ?_
  refine x_iconst (v := (1 : Int32)) dL_law_256 (by decide) ?_
  refine x_iadd dL_law_257 ?_
  refine x_sld dL_law_258 h (fun v8 hv8 h => ?_)
  refine z_bnd h (fun q9 hq9 h => ?_)
  refine x_callV1 rfl (w_X12_streets hq9) cw_X12_streets q_1167 ⟨by decide, by decide⟩ (Nat.le_of_ble_eq_true rfl) dL_law_259 rfl ?_
  refine x_ic_eq (tgt := 1901) dL_law_262 (by decide) h (fun h => ?_) (fun h => ?_)
  · refine x_iinc (v := (x3 + 10)) (lo' := [(3, z_i (x3 + 10)), (0, z_r 99 (some 0)), (1, z_r 11 (some n1)), (2, z_r 12 (some n2))]) 3 dL_law_1901 rfl (congrArg (HAdd.hAdd x3) (by decide)) (by decide) rfl ?_
    refine x_goto (tgt := 18) dL_law_1904 (by decide) ?_
    cases h
    exact x_lo [1, 2, 3, 0] rfl k
  · cases h
set_option maxRecDepth 20000 in
theorem k_L_law_318 {L : Nat} {xs : Nat → Int32} {n1 : Nat} {n2 : Nat} {x3 : Int32} {s0 : Int32} {s1 : Option Nat} {s2 : Int32} {s3 : Int32} {s4 : Int32}  {S : ZH} {z : (Int32 × ZH) ⊕ (ZH)} (h : j_L_law_318 L xs n1 n2 x3 s0 s1 s2 s3 s4 S = some z) (k : Sum.elim (fun v : Int32 × ZH => Wp Y_L_law zE (z_FL L xs) 18 [(0, z_r 99 (some 0)), (1, z_r 11 (some n1)), (2, z_r 12 (some n2)), (3, z_i v.1)] [] v.2) (fun t => Wp Y_L_law zE (z_FL L xs) 1907 [] [] t) z) : Wp Y_L_law zE (z_FL L xs) 318 [(0, z_r 99 (some 0)), (1, z_r 11 (some n1)), (2, z_r 12 (some n2)), (3, z_i x3)] [z_i s4, z_i s3, z_i s2, z_r 12 s1, z_i s0] S := by
  unfold j_L_law_318 at h
  refine z_bnd h (fun a19 ha19 h => ?_)
  revert h
  subst ha19
  intro h
  refine z_bnd h (fun q20 hq20 h => ?_)
  refine x_callV1 rfl (w_X12_way hq20) cw_X12_way q_1175 ⟨by decide, by decide⟩ (Nat.le_of_ble_eq_true rfl) dL_law_318 rfl ?_
  refine x_ic_eq (tgt := 1901) dL_law_321 (by decide) h (fun h => ?_) (fun h => ?_)
  · refine x_iinc (v := (x3 + 10)) (lo' := [(3, z_i (x3 + 10)), (0, z_r 99 (some 0)), (1, z_r 11 (some n1)), (2, z_r 12 (some n2))]) 3 dL_law_1901 rfl (congrArg (HAdd.hAdd x3) (by decide)) (by decide) rfl ?_
    refine x_goto (tgt := 18) dL_law_1904 (by decide) ?_
    cases h
    exact x_lo [1, 2, 3, 0] rfl k
  · cases h
set_option maxRecDepth 20000 in
theorem k_L_law_291 {L : Nat} {xs : Nat → Int32} {n1 : Nat} {n2 : Nat} {x3 : Int32} {s0 : Option Nat} {s1 : Int32} {s2 : Int32} {s3 : Int32}  {S : ZH} {z : (Int32 × ZH) ⊕ (ZH)} (h : j_L_law_291 L xs n1 n2 x3 s0 s1 s2 s3 S = some z) (k : Sum.elim (fun v : Int32 × ZH => Wp Y_L_law zE (z_FL L xs) 18 [(0, z_r 99 (some 0)), (1, z_r 11 (some n1)), (2, z_r 12 (some n2)), (3, z_i v.1)] [] v.2) (fun t => Wp Y_L_law zE (z_FL L xs) 1907 [] [] t) z) : Wp Y_L_law zE (z_FL L xs) 291 [(0, z_r 99 (some 0)), (1, z_r 11 (some n1)), (2, z_r 12 (some n2)), (3, z_i x3)] [z_i s3, z_i s2, z_i s1, z_r 11 s0] S := by
  unfold j_L_law_291 at h
  refine z_bnd h (fun a14 ha14 h => ?_)
  revert h
  subst ha14
  intro h
  refine z_bnd h (fun q15 hq15 h => ?_)
  refine x_callV1 rfl (w_X11_way hq15) cw_X11_way q_262 ⟨by decide, by decide⟩ (Nat.le_of_ble_eq_true rfl) dL_law_291 rfl ?_
  refine x_aload_n 2 dL_law_294 rfl rfl ?_
  refine x_aload_n 0 dL_law_295 rfl rfl ?_
  refine x_iload_n 3 dL_law_296 rfl rfl ?_
  refine x_iconst (v := (1 : Int32)) dL_law_297 (by decide) ?_
  refine x_iadd dL_law_298 ?_
  refine x_sld dL_law_299 h (fun v16 hv16 h => ?_)
  refine x_aload_n 0 dL_law_300 rfl rfl ?_
  refine x_iload_n 3 dL_law_301 rfl rfl ?_
  refine x_iconst (v := (2 : Int32)) dL_law_302 (by decide) ?_
  refine x_iadd dL_law_303 ?_
  refine x_sld dL_law_304 h (fun v17 hv17 h => ?_)
  refine x_aload_n 0 dL_law_305 rfl rfl ?_
  refine x_iload_n 3 dL_law_306 rfl rfl ?_
  refine x_iconst (v := (3 : Int32)) dL_law_307 (by decide) ?_
  refine x_iadd dL_law_308 ?_
  refine x_sld dL_law_309 h (fun v18 hv18 h => ?_)
  refine x_if_eq (tgt := 317) dL_law_310 (by decide) h (fun h => ?_) (fun h => ?_)
  · refine x_iconst (v := (0 : Int32)) dL_law_317 (by decide) ?_
    exact x_lo [0, 1, 2, 3] rfl (k_L_law_318 h k)
  · refine x_iconst (v := (1 : Int32)) dL_law_313 (by decide) ?_
    refine x_goto (tgt := 318) dL_law_314 (by decide) ?_
    exact x_lo [0, 1, 2, 3] rfl (k_L_law_318 h k)
set_option maxRecDepth 20000 in
theorem k_L_law_267 {L : Nat} {xs : Nat → Int32} {n1 : Nat} {n2 : Nat} {x3 : Int32}   {S : ZH} {z : (Int32 × ZH) ⊕ (ZH)} (h : j_L_law_267 L xs n1 n2 x3 S = some z) (k : Sum.elim (fun v : Int32 × ZH => Wp Y_L_law zE (z_FL L xs) 18 [(0, z_r 99 (some 0)), (1, z_r 11 (some n1)), (2, z_r 12 (some n2)), (3, z_i v.1)] [] v.2) (fun t => Wp Y_L_law zE (z_FL L xs) 1907 [] [] t) z) : Wp Y_L_law zE (z_FL L xs) 267 [(0, z_r 99 (some 0)), (1, z_r 11 (some n1)), (2, z_r 12 (some n2)), (3, z_i x3)] [] S := by
  unfold j_L_law_267 at h
  refine x_aload_n 1 dL_law_267 rfl rfl ?_
  refine x_aload_n 0 dL_law_268 rfl rfl ?_
  refine x_iload_n 3 dL_law_269 rfl rfl ?_
  refine x_iconst (v := (1 : Int32)) dL_law_270 (by decide) ?_
  refine x_iadd dL_law_271 ?_
  refine x_sld dL_law_272 h (fun v11 hv11 h => ?_)
  refine x_aload_n 0 dL_law_273 rfl rfl ?_
  refine x_iload_n 3 dL_law_274 rfl rfl ?_
  refine x_iconst (v := (2 : Int32)) dL_law_275 (by decide) ?_
  refine x_iadd dL_law_276 ?_
  refine x_sld dL_law_277 h (fun v12 hv12 h => ?_)
  refine x_aload_n 0 dL_law_278 rfl rfl ?_
  refine x_iload_n 3 dL_law_279 rfl rfl ?_
  refine x_iconst (v := (3 : Int32)) dL_law_280 (by decide) ?_
  refine x_iadd dL_law_281 ?_
  refine x_sld dL_law_282 h (fun v13 hv13 h => ?_)
  refine x_if_eq (tgt := 290) dL_law_283 (by decide) h (fun h => ?_) (fun h => ?_)
  · refine x_iconst (v := (0 : Int32)) dL_law_290 (by decide) ?_
    exact x_lo [0, 1, 2, 3] rfl (k_L_law_291 h k)
  · refine x_iconst (v := (1 : Int32)) dL_law_286 (by decide) ?_
    refine x_goto (tgt := 291) dL_law_287 (by decide) ?_
    exact x_lo [0, 1, 2, 3] rfl (k_L_law_291 h k)
set_option maxRecDepth 20000 in
theorem k_L_law_326 {L : Nat} {xs : Nat → Int32} {n1 : Nat} {n2 : Nat} {x3 : Int32}   {S : ZH} {z : (Int32 × ZH) ⊕ (ZH)} (h : j_L_law_326 L xs n1 n2 x3 S = some z) (k : Sum.elim (fun v : Int32 × ZH => Wp Y_L_law zE (z_FL L xs) 18 [(0, z_r 99 (some 0)), (1, z_r 11 (some n1)), (2, z_r 12 (some n2)), (3, z_i v.1)] [] v.2) (fun t => Wp Y_L_law zE (z_FL L xs) 1907 [] [] t) z) : Wp Y_L_law zE (z_FL L xs) 326 [(0, z_r 99 (some 0)), (1, z_r 11 (some n1)), (2, z_r 12 (some n2)), (3, z_i x3)] [] S := by
  unfold j_L_law_326 at h
  refine x_aload_n 1 dL_law_326 rfl rfl ?_
  refine x_aload_n 0 dL_law_327 rfl rfl ?_
  refine x_iload_n 3 dL_law_328 rfl rfl ?_
  refine x_iconst (v := (1 : Int32)) dL_law_329 (by decide) ?_
  refine x_iadd dL_law_330 ?_
  refine x_sld dL_law_331 h (fun v22 hv22 h => ?_)
  refine x_aload_n 0 dL_law_332 rfl rfl ?_
  refine x_iload_n 3 dL_law_333 rfl rfl ?_
  refine x_iconst (v := (2 : Int32)) dL_law_334 (by decide) ?_
  refine x_iadd dL_law_335 ?_
  refine x_sld dL_law_336 h (fun v23 hv23 h => ?_)
  refine z_bnd h (fun q24 hq24 h => ?_)
  refine x_callV1 rfl (w_X11_far hq24) cw_X11_far q_278 ⟨by decide, by decide⟩ (Nat.le_of_ble_eq_true rfl) dL_law_337 rfl ?_
  refine x_aload_n 2 dL_law_340 rfl rfl ?_
  refine x_aload_n 0 dL_law_341 rfl rfl ?_
  refine x_iload_n 3 dL_law_342 rfl rfl ?_
  refine x_iconst (v := (1 : Int32)) dL_law_343 (by decide) ?_
  refine x_iadd dL_law_344 ?_
  refine x_sld dL_law_345 h (fun v25 hv25 h => ?_)
  refine x_aload_n 0 dL_law_346 rfl rfl ?_
  refine x_iload_n 3 dL_law_347 rfl rfl ?_
  refine x_iconst (v := (2 : Int32)) dL_law_348 (by decide) ?_
  refine x_iadd dL_law_349 ?_
  refine x_sld dL_law_350 h (fun v26 hv26 h => ?_)
  refine z_bnd h (fun q27 hq27 h => ?_)
  refine x_callV1 rfl (w_X12_far hq27) cw_X12_far q_1183 ⟨by decide, by decide⟩ (Nat.le_of_ble_eq_true rfl) dL_law_351 rfl ?_
  refine x_ic_eq (tgt := 1901) dL_law_354 (by decide) h (fun h => ?_) (fun h => ?_)
  · refine x_iinc (v := (x3 + 10)) (lo' := [(3, z_i (x3 + 10)), (0, z_r 99 (some 0)), (1, z_r 11 (some n1)), (2, z_r 12 (some n2))]) 3 dL_law_1901 rfl (congrArg (HAdd.hAdd x3) (by decide)) (by decide) rfl ?_
    refine x_goto (tgt := 18) dL_law_1904 (by decide) ?_
    cases h
    exact x_lo [1, 2, 3, 0] rfl k
  · cases h
set_option maxRecDepth 20000 in
theorem k_L_law_359 {L : Nat} {xs : Nat → Int32} {n1 : Nat} {n2 : Nat} {x3 : Int32}   {S : ZH} {z : (Int32 × ZH) ⊕ (ZH)} (h : j_L_law_359 L xs n1 n2 x3 S = some z) (k : Sum.elim (fun v : Int32 × ZH => Wp Y_L_law zE (z_FL L xs) 18 [(0, z_r 99 (some 0)), (1, z_r 11 (some n1)), (2, z_r 12 (some n2)), (3, z_i v.1)] [] v.2) (fun t => Wp Y_L_law zE (z_FL L xs) 1907 [] [] t) z) : Wp Y_L_law zE (z_FL L xs) 359 [(0, z_r 99 (some 0)), (1, z_r 11 (some n1)), (2, z_r 12 (some n2)), (3, z_i x3)] [] S := by
  unfold j_L_law_359 at h
  refine x_aload_n 1 dL_law_359 rfl rfl ?_
  refine x_aload_n 0 dL_law_360 rfl rfl ?_
  refine x_iload_n 3 dL_law_361 rfl rfl ?_
  refine x_iconst (v := (1 : Int32)) dL_law_362 (by decide) ?_
  refine x_iadd dL_law_363 ?_
  refine x_sld dL_law_364 h (fun v29 hv29 h => ?_)
  refine x_aload_n 0 dL_law_365 rfl rfl ?_
  refine x_iload_n 3 dL_law_366 rfl rfl ?_
  refine x_iconst (v := (2 : Int32)) dL_law_367 (by decide) ?_
  refine x_iadd dL_law_368 ?_
  refine x_sld dL_law_369 h (fun v30 hv30 h => ?_)
  refine x_aload_n 0 dL_law_370 rfl rfl ?_
  refine x_iload_n 3 dL_law_371 rfl rfl ?_
  refine x_iconst (v := (3 : Int32)) dL_law_372 (by decide) ?_
  refine x_iadd dL_law_373 ?_
  refine x_sld dL_law_374 h (fun v31 hv31 h => ?_)
  refine x_aload_n 0 dL_law_375 rfl rfl ?_
  refine x_iload_n 3 dL_law_376 rfl rfl ?_
  refine x_iconst (v := (4 : Int32)) dL_law_377 (by decide) ?_
  refine x_iadd dL_law_378 ?_
  refine x_sld dL_law_379 h (fun v32 hv32 h => ?_)
  refine x_aload_n 0 dL_law_380 rfl rfl ?_
  refine x_iload_n 3 dL_law_381 rfl rfl ?_
  refine x_iconst (v := (5 : Int32)) dL_law_382 (by decide) ?_
  refine x_iadd dL_law_383 ?_
  refine x_sld dL_law_384 h (fun v33 hv33 h => ?_)
  refine x_aload_n 0 dL_law_385 rfl rfl ?_
  refine x_iload_n 3 dL_law_386 rfl rfl ?_
  refine x_bipush (v := (6 : Int32)) dL_law_387 (by decide) ?_
  refine x_iadd dL_law_389 ?_
  refine x_sld dL_law_390 h (fun v34 hv34 h => ?_)
  refine x_aload_n 0 dL_law_391 rfl rfl ?_
  refine x_iload_n 3 dL_law_392 rfl rfl ?_
  refine x_bipush (v := (7 : Int32)) dL_law_393 (by decide) ?_
  refine x_iadd dL_law_395 ?_
  refine x_sld dL_law_396 h (fun v35 hv35 h => ?_)
  refine z_bnd h (fun q36 hq36 h => ?_)
  refine x_callV1 rfl (w_X11_man hq36) cw_X11_man q_293 ⟨by decide, by decide⟩ (Nat.le_of_ble_eq_true rfl) dL_law_397 rfl ?_
  refine x_aload_n 2 dL_law_400 rfl rfl ?_
  refine x_aload_n 0 dL_law_401 rfl rfl ?_
  refine x_iload_n 3 dL_law_402 rfl rfl ?_
  refine x_iconst (v := (1 : Int32)) dL_law_403 (by decide) ?_
  refine x_iadd dL_law_404 ?_
  refine x_sld dL_law_405 h (fun v37 hv37 h => ?_)
  refine x_aload_n 0 dL_law_406 rfl rfl ?_
  refine x_iload_n 3 dL_law_407 rfl rfl ?_
  refine x_iconst (v := (2 : Int32)) dL_law_408 (by decide) ?_
  refine x_iadd dL_law_409 ?_
  refine x_sld dL_law_410 h (fun v38 hv38 h => ?_)
  refine x_aload_n 0 dL_law_411 rfl rfl ?_
  refine x_iload_n 3 dL_law_412 rfl rfl ?_
  refine x_iconst (v := (3 : Int32)) dL_law_413 (by decide) ?_
  refine x_iadd dL_law_414 ?_
  refine x_sld dL_law_415 h (fun v39 hv39 h => ?_)
  refine x_aload_n 0 dL_law_416 rfl rfl ?_
  refine x_iload_n 3 dL_law_417 rfl rfl ?_
  refine x_iconst (v := (4 : Int32)) dL_law_418 (by decide) ?_
  refine x_iadd dL_law_419 ?_
  refine x_sld dL_law_420 h (fun v40 hv40 h => ?_)
  refine x_aload_n 0 dL_law_421 rfl rfl ?_
  refine x_iload_n 3 dL_law_422 rfl rfl ?_
  refine x_iconst (v := (5 : Int32)) dL_law_423 (by decide) ?_
  refine x_iadd dL_law_424 ?_
  refine x_sld dL_law_425 h (fun v41 hv41 h => ?_)
  refine x_aload_n 0 dL_law_426 rfl rfl ?_
  refine x_iload_n 3 dL_law_427 rfl rfl ?_
  refine x_bipush (v := (6 : Int32)) dL_law_428 (by decide) ?_
  refine x_iadd dL_law_430 ?_
  refine x_sld dL_law_431 h (fun v42 hv42 h => ?_)
  refine x_aload_n 0 dL_law_432 rfl rfl ?_
  refine x_iload_n 3 dL_law_433 rfl rfl ?_
  refine x_bipush (v := (7 : Int32)) dL_law_434 (by decide) ?_
  refine x_iadd dL_law_436 ?_
  refine x_sld dL_law_437 h (fun v43 hv43 h => ?_)
  refine z_bnd h (fun q44 hq44 h => ?_)
  refine x_callV1 rfl (w_X12_man hq44) cw_X12_man q_1191 ⟨by decide, by decide⟩ (Nat.le_of_ble_eq_true rfl) dL_law_438 rfl ?_
  refine x_ic_eq (tgt := 1901) dL_law_441 (by decide) h (fun h => ?_) (fun h => ?_)
  · refine x_iinc (v := (x3 + 10)) (lo' := [(3, z_i (x3 + 10)), (0, z_r 99 (some 0)), (1, z_r 11 (some n1)), (2, z_r 12 (some n2))]) 3 dL_law_1901 rfl (congrArg (HAdd.hAdd x3) (by decide)) (by decide) rfl ?_
    refine x_goto (tgt := 18) dL_law_1904 (by decide) ?_
    cases h
    exact x_lo [1, 2, 3, 0] rfl k
  · cases h
set_option maxRecDepth 20000 in
theorem k_L_law_446 {L : Nat} {xs : Nat → Int32} {n1 : Nat} {n2 : Nat} {x3 : Int32}   {S : ZH} {z : (Int32 × ZH) ⊕ (ZH)} (h : j_L_law_446 L xs n1 n2 x3 S = some z) (k : Sum.elim (fun v : Int32 × ZH => Wp Y_L_law zE (z_FL L xs) 18 [(0, z_r 99 (some 0)), (1, z_r 11 (some n1)), (2, z_r 12 (some n2)), (3, z_i v.1)] [] v.2) (fun t => Wp Y_L_law zE (z_FL L xs) 1907 [] [] t) z) : Wp Y_L_law zE (z_FL L xs) 446 [(0, z_r 99 (some 0)), (1, z_r 11 (some n1)), (2, z_r 12 (some n2)), (3, z_i x3)] [] S := by
  unfold j_L_law_446 at h
  refine x_aload_n 1 dL_law_446 rfl rfl ?_
  refine x_aload_n 0 dL_law_447 rfl rfl ?_
  refine x_iload_n 3 dL_law_448 rfl rfl ?_
  refine x_iconst (v := (1 : Int32)) dL_law_449 (by decide) ?_
  refine x_iadd dL_law_450 ?_
  refine x_sld dL_law_451 h (fun v46 hv46 h => ?_)
  refine x_aload_n 0 dL_law_452 rfl rfl ?_
  refine x_iload_n 3 dL_law_453 rfl rfl ?_
  refine x_iconst (v := (2 : Int32)) dL_law_454 (by decide) ?_
  refine x_iadd dL_law_455 ?_
  refine x_sld dL_law_456 h (fun v47 hv47 h => ?_)
  refine z_bnd h (fun q48 hq48 h => ?_)
  refine x_callV1 rfl (w_X11_about hq48) cw_X11_about q_362 ⟨by decide, by decide⟩ (Nat.le_of_ble_eq_true rfl) dL_law_457 rfl ?_
  refine x_aload_n 2 dL_law_460 rfl rfl ?_
  refine x_aload_n 0 dL_law_461 rfl rfl ?_
  refine x_iload_n 3 dL_law_462 rfl rfl ?_
  refine x_iconst (v := (1 : Int32)) dL_law_463 (by decide) ?_
  refine x_iadd dL_law_464 ?_
  refine x_sld dL_law_465 h (fun v49 hv49 h => ?_)
  refine x_aload_n 0 dL_law_466 rfl rfl ?_
  refine x_iload_n 3 dL_law_467 rfl rfl ?_
  refine x_iconst (v := (2 : Int32)) dL_law_468 (by decide) ?_
  refine x_iadd dL_law_469 ?_
  refine x_sld dL_law_470 h (fun v50 hv50 h => ?_)
  refine z_bnd h (fun q51 hq51 h => ?_)
  refine x_callV1 rfl (w_X12_about hq51) cw_X12_about q_1202 ⟨by decide, by decide⟩ (Nat.le_of_ble_eq_true rfl) dL_law_471 rfl ?_
  refine x_ic_eq (tgt := 1901) dL_law_474 (by decide) h (fun h => ?_) (fun h => ?_)
  · refine x_iinc (v := (x3 + 10)) (lo' := [(3, z_i (x3 + 10)), (0, z_r 99 (some 0)), (1, z_r 11 (some n1)), (2, z_r 12 (some n2))]) 3 dL_law_1901 rfl (congrArg (HAdd.hAdd x3) (by decide)) (by decide) rfl ?_
    refine x_goto (tgt := 18) dL_law_1904 (by decide) ?_
    cases h
    exact x_lo [1, 2, 3, 0] rfl k
  · cases h
set_option maxRecDepth 20000 in
theorem k_L_law_520 {L : Nat} {xs : Nat → Int32} {n1 : Nat} {n2 : Nat} {x3 : Int32} {s0 : Int32} {s1 : Option Nat} {s2 : Int32} {s3 : Int32}  {S : ZH} {z : (Int32 × ZH) ⊕ (ZH)} (h : j_L_law_520 L xs n1 n2 x3 s0 s1 s2 s3 S = some z) (k : Sum.elim (fun v : Int32 × ZH => Wp Y_L_law zE (z_FL L xs) 18 [(0, z_r 99 (some 0)), (1, z_r 11 (some n1)), (2, z_r 12 (some n2)), (3, z_i v.1)] [] v.2) (fun t => Wp Y_L_law zE (z_FL L xs) 1907 [] [] t) z) : Wp Y_L_law zE (z_FL L xs) 520 [(0, z_r 99 (some 0)), (1, z_r 11 (some n1)), (2, z_r 12 (some n2)), (3, z_i x3)] [z_i s3, z_i s2, z_r 12 s1, z_i s0] S := by
  unfold j_L_law_520 at h
  refine z_bnd h (fun a59 ha59 h => ?_)
  revert h
  subst ha59
  intro h
  refine z_bnd h (fun q60 hq60 h => ?_)
  refine x_callV1 rfl (w_X12_shy hq60) cw_X12_shy q_1211 ⟨by decide, by decide⟩ (Nat.le_of_ble_eq_true rfl) dL_law_520 rfl ?_
  refine x_ic_eq (tgt := 1901) dL_law_523 (by decide) h (fun h => ?_) (fun h => ?_)
  · refine x_iinc (v := (x3 + 10)) (lo' := [(3, z_i (x3 + 10)), (0, z_r 99 (some 0)), (1, z_r 11 (some n1)), (2, z_r 12 (some n2))]) 3 dL_law_1901 rfl (congrArg (HAdd.hAdd x3) (by decide)) (by decide) rfl ?_
    refine x_goto (tgt := 18) dL_law_1904 (by decide) ?_
    cases h
    exact x_lo [1, 2, 3, 0] rfl k
  · cases h
set_option maxRecDepth 20000 in
theorem k_L_law_498 {L : Nat} {xs : Nat → Int32} {n1 : Nat} {n2 : Nat} {x3 : Int32} {s0 : Option Nat} {s1 : Int32} {s2 : Int32}  {S : ZH} {z : (Int32 × ZH) ⊕ (ZH)} (h : j_L_law_498 L xs n1 n2 x3 s0 s1 s2 S = some z) (k : Sum.elim (fun v : Int32 × ZH => Wp Y_L_law zE (z_FL L xs) 18 [(0, z_r 99 (some 0)), (1, z_r 11 (some n1)), (2, z_r 12 (some n2)), (3, z_i v.1)] [] v.2) (fun t => Wp Y_L_law zE (z_FL L xs) 1907 [] [] t) z) : Wp Y_L_law zE (z_FL L xs) 498 [(0, z_r 99 (some 0)), (1, z_r 11 (some n1)), (2, z_r 12 (some n2)), (3, z_i x3)] [z_i s2, z_i s1, z_r 11 s0] S := by
  unfold j_L_law_498 at h
  refine z_bnd h (fun a55 ha55 h => ?_)
  revert h
  subst ha55
  intro h
  refine z_bnd h (fun q56 hq56 h => ?_)
  refine x_callV1 rfl (w_X11_shy hq56) cw_X11_shy q_370 ⟨by decide, by decide⟩ (Nat.le_of_ble_eq_true rfl) dL_law_498 rfl ?_
  refine x_aload_n 2 dL_law_501 rfl rfl ?_
  refine x_aload_n 0 dL_law_502 rfl rfl ?_
  refine x_iload_n 3 dL_law_503 rfl rfl ?_
  refine x_iconst (v := (1 : Int32)) dL_law_504 (by decide) ?_
  refine x_iadd dL_law_505 ?_
  refine x_sld dL_law_506 h (fun v57 hv57 h => ?_)
  refine x_aload_n 0 dL_law_507 rfl rfl ?_
  refine x_iload_n 3 dL_law_508 rfl rfl ?_
  refine x_iconst (v := (2 : Int32)) dL_law_509 (by decide) ?_
  refine x_iadd dL_law_510 ?_
  refine x_sld dL_law_511 h (fun v58 hv58 h => ?_)
  refine x_if_eq (tgt := 519) dL_law_512 (by decide) h (fun h => ?_) (fun h => ?_)
  · refine x_iconst (v := (0 : Int32)) dL_law_519 (by decide) ?_
    exact x_lo [0, 1, 2, 3] rfl (k_L_law_520 h k)
  · refine x_iconst (v := (1 : Int32)) dL_law_515 (by decide) ?_
    refine x_goto (tgt := 520) dL_law_516 (by decide) ?_
    exact x_lo [0, 1, 2, 3] rfl (k_L_law_520 h k)
set_option maxRecDepth 20000 in
theorem k_L_law_479 {L : Nat} {xs : Nat → Int32} {n1 : Nat} {n2 : Nat} {x3 : Int32}   {S : ZH} {z : (Int32 × ZH) ⊕ (ZH)} (h : j_L_law_479 L xs n1 n2 x3 S = some z) (k : Sum.elim (fun v : Int32 × ZH => Wp Y_L_law zE (z_FL L xs) 18 [(0, z_r 99 (some 0)), (1, z_r 11 (some n1)), (2, z_r 12 (some n2)), (3, z_i v.1)] [] v.2) (fun t => Wp Y_L_law zE (z_FL L xs) 1907 [] [] t) z) : Wp Y_L_law zE (z_FL L xs) 479 [(0, z_r 99 (some 0)), (1, z_r 11 (some n1)), (2, z_r 12 (some n2)), (3, z_i x3)] [] S := by
  unfold j_L_law_479 at h
  refine x_aload_n 1 dL_law_479 rfl rfl ?_
  refine x_aload_n 0 dL_law_480 rfl rfl ?_
  refine x_iload_n 3 dL_law_481 rfl rfl ?_
  refine x_iconst (v := (1 : Int32)) dL_law_482 (by decide) ?_
  refine x_iadd dL_law_483 ?_
  refine x_sld dL_law_484 h (fun v53 hv53 h => ?_)
  refine x_aload_n 0 dL_law_485 rfl rfl ?_
  refine x_iload_n 3 dL_law_486 rfl rfl ?_
  refine x_iconst (v := (2 : Int32)) dL_law_487 (by decide) ?_
  refine x_iadd dL_law_488 ?_
  refine x_sld dL_law_489 h (fun v54 hv54 h => ?_)
  refine x_if_eq (tgt := 497) dL_law_490 (by decide) h (fun h => ?_) (fun h => ?_)
  · refine x_iconst (v := (0 : Int32)) dL_law_497 (by decide) ?_
    exact x_lo [0, 1, 2, 3] rfl (k_L_law_498 h k)
  · refine x_iconst (v := (1 : Int32)) dL_law_493 (by decide) ?_
    refine x_goto (tgt := 498) dL_law_494 (by decide) ?_
    exact x_lo [0, 1, 2, 3] rfl (k_L_law_498 h k)
set_option maxRecDepth 20000 in
theorem k_L_law_528 {L : Nat} {xs : Nat → Int32} {n1 : Nat} {n2 : Nat} {x3 : Int32}   {S : ZH} {z : (Int32 × ZH) ⊕ (ZH)} (h : j_L_law_528 L xs n1 n2 x3 S = some z) (k : Sum.elim (fun v : Int32 × ZH => Wp Y_L_law zE (z_FL L xs) 18 [(0, z_r 99 (some 0)), (1, z_r 11 (some n1)), (2, z_r 12 (some n2)), (3, z_i v.1)] [] v.2) (fun t => Wp Y_L_law zE (z_FL L xs) 1907 [] [] t) z) : Wp Y_L_law zE (z_FL L xs) 528 [(0, z_r 99 (some 0)), (1, z_r 11 (some n1)), (2, z_r 12 (some n2)), (3, z_i x3)] [] S := by
  unfold j_L_law_528 at h
  refine x_aload_n 1 dL_law_528 rfl rfl ?_
  refine x_aload_n 0 dL_law_529 rfl rfl ?_
  refine x_iload_n 3 dL_law_530 rfl rfl ?_
  refine x_iconst (v := (1 : Int32)) dL_law_531 (by decide) ?_
  refine x_iadd dL_law_532 ?_
  refine x_sld dL_law_533 h (fun v62 hv62 h => ?_)
  refine x_aload_n 0 dL_law_534 rfl rfl ?_
  refine x_iload_n 3 dL_law_535 rfl rfl ?_
  refine x_iconst (v := (2 : Int32)) dL_law_536 (by decide) ?_
  refine x_iadd dL_law_537 ?_
  refine x_sld dL_law_538 h (fun v63 hv63 h => ?_)
  refine z_bnd h (fun q64 hq64 h => ?_)
  refine x_callV1 rfl (w_X11_where hq64) cw_X11_where q_374 ⟨by decide, by decide⟩ (Nat.le_of_ble_eq_true rfl) dL_law_539 rfl ?_
  refine x_aload_n 2 dL_law_542 rfl rfl ?_
  refine x_aload_n 0 dL_law_543 rfl rfl ?_
  refine x_iload_n 3 dL_law_544 rfl rfl ?_
  refine x_iconst (v := (1 : Int32)) dL_law_545 (by decide) ?_
  refine x_iadd dL_law_546 ?_
  refine x_sld dL_law_547 h (fun v65 hv65 h => ?_)
  refine x_aload_n 0 dL_law_548 rfl rfl ?_
  refine x_iload_n 3 dL_law_549 rfl rfl ?_
  refine x_iconst (v := (2 : Int32)) dL_law_550 (by decide) ?_
  refine x_iadd dL_law_551 ?_
  refine x_sld dL_law_552 h (fun v66 hv66 h => ?_)
  refine z_bnd h (fun q67 hq67 h => ?_)
  refine x_callV1 rfl (w_X12_where hq67) cw_X12_where q_1215 ⟨by decide, by decide⟩ (Nat.le_of_ble_eq_true rfl) dL_law_553 rfl ?_
  refine x_ic_eq (tgt := 1901) dL_law_556 (by decide) h (fun h => ?_) (fun h => ?_)
  · refine x_iinc (v := (x3 + 10)) (lo' := [(3, z_i (x3 + 10)), (0, z_r 99 (some 0)), (1, z_r 11 (some n1)), (2, z_r 12 (some n2))]) 3 dL_law_1901 rfl (congrArg (HAdd.hAdd x3) (by decide)) (by decide) rfl ?_
    refine x_goto (tgt := 18) dL_law_1904 (by decide) ?_
    cases h
    exact x_lo [1, 2, 3, 0] rfl k
  · cases h
set_option maxRecDepth 20000 in
theorem k_L_law_561 {L : Nat} {xs : Nat → Int32} {n1 : Nat} {n2 : Nat} {x3 : Int32}   {S : ZH} {z : (Int32 × ZH) ⊕ (ZH)} (h : j_L_law_561 L xs n1 n2 x3 S = some z) (k : Sum.elim (fun v : Int32 × ZH => Wp Y_L_law zE (z_FL L xs) 18 [(0, z_r 99 (some 0)), (1, z_r 11 (some n1)), (2, z_r 12 (some n2)), (3, z_i v.1)] [] v.2) (fun t => Wp Y_L_law zE (z_FL L xs) 1907 [] [] t) z) : Wp Y_L_law zE (z_FL L xs) 561 [(0, z_r 99 (some 0)), (1, z_r 11 (some n1)), (2, z_r 12 (some n2)), (3, z_i x3)] [] S := by
  unfold j_L_law_561 at h
  refine x_aload_n 1 dL_law_561 rfl rfl ?_
  refine x_aload_n 0 dL_law_562 rfl rfl ?_
  refine x_iload_n 3 dL_law_563 rfl rfl ?_
  refine x_iconst (v := (1 : Int32)) dL_law_564 (by decide) ?_
  refine x_iadd dL_law_565 ?_
  refine x_sld dL_law_566 h (fun v69 hv69 h => ?_)
  refine z_bnd h (fun q70 hq70 h => ?_)
  refine x_callV1 rfl (w_X11_at hq70) cw_X11_at q_386 ⟨by decide, by decide⟩ (Nat.le_of_ble_eq_true rfl) dL_law_567 rfl ?_
  refine x_aload_n 2 dL_law_570 rfl rfl ?_
  refine x_aload_n 0 dL_law_571 rfl rfl ?_
  refine x_iload_n 3 dL_law_572 rfl rfl ?_
  refine x_iconst (v := (1 : Int32)) dL_law_573 (by decide) ?_
  refine x_iadd dL_law_574 ?_
  refine x_sld dL_law_575 h (fun v71 hv71 h => ?_)
  refine z_bnd h (fun q72 hq72 h => ?_)
  refine x_callV1 rfl (w_X12_at hq72) cw_X12_at q_1219 ⟨by decide, by decide⟩ (Nat.le_of_ble_eq_true rfl) dL_law_576 rfl ?_
  refine x_ic_eq (tgt := 1901) dL_law_579 (by decide) h (fun h => ?_) (fun h => ?_)
  · refine x_iinc (v := (x3 + 10)) (lo' := [(3, z_i (x3 + 10)), (0, z_r 99 (some 0)), (1, z_r 11 (some n1)), (2, z_r 12 (some n2))]) 3 dL_law_1901 rfl (congrArg (HAdd.hAdd x3) (by decide)) (by decide) rfl ?_
    refine x_goto (tgt := 18) dL_law_1904 (by decide) ?_
    cases h
    exact x_lo [1, 2, 3, 0] rfl k
  · cases h
set_option maxRecDepth 20000 in
theorem k_L_law_584 {L : Nat} {xs : Nat → Int32} {n1 : Nat} {n2 : Nat} {x3 : Int32}   {S : ZH} {z : (Int32 × ZH) ⊕ (ZH)} (h : j_L_law_584 L xs n1 n2 x3 S = some z) (k : Sum.elim (fun v : Int32 × ZH => Wp Y_L_law zE (z_FL L xs) 18 [(0, z_r 99 (some 0)), (1, z_r 11 (some n1)), (2, z_r 12 (some n2)), (3, z_i v.1)] [] v.2) (fun t => Wp Y_L_law zE (z_FL L xs) 1907 [] [] t) z) : Wp Y_L_law zE (z_FL L xs) 584 [(0, z_r 99 (some 0)), (1, z_r 11 (some n1)), (2, z_r 12 (some n2)), (3, z_i x3)] [] S := by
  unfold j_L_law_584 at h
  refine x_aload_n 1 dL_law_584 rfl rfl ?_
  refine z_bnd h (fun q74 hq74 h => ?_)
  refine x_callV1 rfl (w_X11_tide hq74) cw_X11_tide q_402 ⟨by decide, by decide⟩ (Nat.le_of_ble_eq_true rfl) dL_law_585 rfl ?_
  refine x_aload_n 2 dL_law_588 rfl rfl ?_
  refine z_bnd h (fun q75 hq75 h => ?_)
  refine x_callV1 rfl (w_X12_tide hq75) cw_X12_tide q_1233 ⟨by decide, by decide⟩ (Nat.le_of_ble_eq_true rfl) dL_law_589 rfl ?_
  refine x_ic_eq (tgt := 1901) dL_law_592 (by decide) h (fun h => ?_) (fun h => ?_)
  · refine x_iinc (v := (x3 + 10)) (lo' := [(3, z_i (x3 + 10)), (0, z_r 99 (some 0)), (1, z_r 11 (some n1)), (2, z_r 12 (some n2))]) 3 dL_law_1901 rfl (congrArg (HAdd.hAdd x3) (by decide)) (by decide) rfl ?_
    refine x_goto (tgt := 18) dL_law_1904 (by decide) ?_
    cases h
    exact x_lo [1, 2, 3, 0] rfl k
  · cases h
set_option maxRecDepth 20000 in
theorem k_L_law_597 {L : Nat} {xs : Nat → Int32} {n1 : Nat} {n2 : Nat} {x3 : Int32}   {S : ZH} {z : (Int32 × ZH) ⊕ (ZH)} (h : j_L_law_597 L xs n1 n2 x3 S = some z) (k : Sum.elim (fun v : Int32 × ZH => Wp Y_L_law zE (z_FL L xs) 18 [(0, z_r 99 (some 0)), (1, z_r 11 (some n1)), (2, z_r 12 (some n2)), (3, z_i v.1)] [] v.2) (fun t => Wp Y_L_law zE (z_FL L xs) 1907 [] [] t) z) : Wp Y_L_law zE (z_FL L xs) 597 [(0, z_r 99 (some 0)), (1, z_r 11 (some n1)), (2, z_r 12 (some n2)), (3, z_i x3)] [] S := by
  unfold j_L_law_597 at h
  refine x_aload_n 1 dL_law_597 rfl rfl ?_
  refine x_aload_n 0 dL_law_598 rfl rfl ?_
  refine x_iload_n 3 dL_law_599 rfl rfl ?_
  refine x_iconst (v := (1 : Int32)) dL_law_600 (by decide) ?_
  refine x_iadd dL_law_601 ?_
  refine x_sld dL_law_602 h (fun v77 hv77 h => ?_)
  refine z_bnd h (fun q78 hq78 h => ?_)
  refine x_callV1 rfl (w_X11_pass hq78) cw_X11_pass q_406 ⟨by decide, by decide⟩ (Nat.le_of_ble_eq_true rfl) dL_law_603 rfl ?_
  refine x_aload_n 2 dL_law_606 rfl rfl ?_
  refine x_aload_n 0 dL_law_607 rfl rfl ?_
  refine x_iload_n 3 dL_law_608 rfl rfl ?_
  refine x_iconst (v := (1 : Int32)) dL_law_609 (by decide) ?_
  refine x_iadd dL_law_610 ?_
  refine x_sld dL_law_611 h (fun v79 hv79 h => ?_)
  refine z_bnd h (fun q80 hq80 h => ?_)
  refine x_callV1 rfl (w_X12_pass hq80) cw_X12_pass q_1237 ⟨by decide, by decide⟩ (Nat.le_of_ble_eq_true rfl) dL_law_612 rfl ?_
  refine x_ic_eq (tgt := 1901) dL_law_615 (by decide) h (fun h => ?_) (fun h => ?_)
  · refine x_iinc (v := (x3 + 10)) (lo' := [(3, z_i (x3 + 10)), (0, z_r 99 (some 0)), (1, z_r 11 (some n1)), (2, z_r 12 (some n2))]) 3 dL_law_1901 rfl (congrArg (HAdd.hAdd x3) (by decide)) (by decide) rfl ?_
    refine x_goto (tgt := 18) dL_law_1904 (by decide) ?_
    cases h
    exact x_lo [1, 2, 3, 0] rfl k
  · cases h
set_option maxRecDepth 20000 in
theorem k_L_law_620 {L : Nat} {xs : Nat → Int32} {n1 : Nat} {n2 : Nat} {x3 : Int32}   {S : ZH} {z : (Int32 × ZH) ⊕ (ZH)} (h : j_L_law_620 L xs n1 n2 x3 S = some z) (k : Sum.elim (fun v : Int32 × ZH => Wp Y_L_law zE (z_FL L xs) 18 [(0, z_r 99 (some 0)), (1, z_r 11 (some n1)), (2, z_r 12 (some n2)), (3, z_i v.1)] [] v.2) (fun t => Wp Y_L_law zE (z_FL L xs) 1907 [] [] t) z) : Wp Y_L_law zE (z_FL L xs) 620 [(0, z_r 99 (some 0)), (1, z_r 11 (some n1)), (2, z_r 12 (some n2)), (3, z_i x3)] [] S := by
  unfold j_L_law_620 at h
  refine x_aload_n 1 dL_law_620 rfl rfl ?_
  refine x_aload_n 0 dL_law_621 rfl rfl ?_
  refine x_iload_n 3 dL_law_622 rfl rfl ?_
  refine x_iconst (v := (1 : Int32)) dL_law_623 (by decide) ?_
  refine x_iadd dL_law_624 ?_
  refine x_sld dL_law_625 h (fun v82 hv82 h => ?_)
  refine x_aload_n 0 dL_law_626 rfl rfl ?_
  refine x_iload_n 3 dL_law_627 rfl rfl ?_
  refine x_iconst (v := (2 : Int32)) dL_law_628 (by decide) ?_
  refine x_iadd dL_law_629 ?_
  refine x_sld dL_law_630 h (fun v83 hv83 h => ?_)
  refine z_bnd h (fun q84 hq84 h => ?_)
  refine x_callV1 rfl (w_X11_walk hq84) cw_X11_walk q_461 ⟨by decide, by decide⟩ (Nat.le_of_ble_eq_true rfl) dL_law_631 rfl ?_
  refine x_aload_n 2 dL_law_634 rfl rfl ?_
  refine x_aload_n 0 dL_law_635 rfl rfl ?_
  refine x_iload_n 3 dL_law_636 rfl rfl ?_
  refine x_iconst (v := (1 : Int32)) dL_law_637 (by decide) ?_
  refine x_iadd dL_law_638 ?_
  refine x_sld dL_law_639 h (fun v85 hv85 h => ?_)
  refine x_aload_n 0 dL_law_640 rfl rfl ?_
  refine x_iload_n 3 dL_law_641 rfl rfl ?_
  refine x_iconst (v := (2 : Int32)) dL_law_642 (by decide) ?_
  refine x_iadd dL_law_643 ?_
  refine x_sld dL_law_644 h (fun v86 hv86 h => ?_)
  refine z_bnd h (fun q87 hq87 h => ?_)
  refine x_callV1 rfl (w_X12_walk hq87) cw_X12_walk q_1256 ⟨by decide, by decide⟩ (Nat.le_of_ble_eq_true rfl) dL_law_645 rfl ?_
  refine x_ic_eq (tgt := 1901) dL_law_648 (by decide) h (fun h => ?_) (fun h => ?_)
  · refine x_iinc (v := (x3 + 10)) (lo' := [(3, z_i (x3 + 10)), (0, z_r 99 (some 0)), (1, z_r 11 (some n1)), (2, z_r 12 (some n2))]) 3 dL_law_1901 rfl (congrArg (HAdd.hAdd x3) (by decide)) (by decide) rfl ?_
    refine x_goto (tgt := 18) dL_law_1904 (by decide) ?_
    cases h
    exact x_lo [1, 2, 3, 0] rfl k
  · cases h
set_option maxRecDepth 20000 in
theorem k_L_law_653 {L : Nat} {xs : Nat → Int32} {n1 : Nat} {n2 : Nat} {x3 : Int32}   {S : ZH} {z : (Int32 × ZH) ⊕ (ZH)} (h : j_L_law_653 L xs n1 n2 x3 S = some z) (k : Sum.elim (fun v : Int32 × ZH => Wp Y_L_law zE (z_FL L xs) 18 [(0, z_r 99 (some 0)), (1, z_r 11 (some n1)), (2, z_r 12 (some n2)), (3, z_i v.1)] [] v.2) (fun t => Wp Y_L_law zE (z_FL L xs) 1907 [] [] t) z) : Wp Y_L_law zE (z_FL L xs) 653 [(0, z_r 99 (some 0)), (1, z_r 11 (some n1)), (2, z_r 12 (some n2)), (3, z_i x3)] [] S := by
  unfold j_L_law_653 at h
  refine x_aload_n 1 dL_law_653 rfl rfl ?_
  refine x_aload_n 0 dL_law_654 rfl rfl ?_
  refine x_iload_n 3 dL_law_655 rfl rfl ?_
  refine x_iconst (v := (1 : Int32)) dL_law_656 (by decide) ?_
  refine x_iadd dL_law_657 ?_
  refine x_sld dL_law_658 h (fun v89 hv89 h => ?_)
  refine z_bnd h (fun q90 hq90 h => ?_)
  refine x_callV1 rfl (w_X11_run hq90) cw_X11_run q_468 ⟨by decide, by decide⟩ (Nat.le_of_ble_eq_true rfl) dL_law_659 rfl ?_
  refine x_aload_n 2 dL_law_662 rfl rfl ?_
  refine x_aload_n 0 dL_law_663 rfl rfl ?_
  refine x_iload_n 3 dL_law_664 rfl rfl ?_
  refine x_iconst (v := (1 : Int32)) dL_law_665 (by decide) ?_
  refine x_iadd dL_law_666 ?_
  refine x_sld dL_law_667 h (fun v91 hv91 h => ?_)
  refine z_bnd h (fun q92 hq92 h => ?_)
  refine x_callV1 rfl (w_X12_run hq92) cw_X12_run q_1260 ⟨by decide, by decide⟩ (Nat.le_of_ble_eq_true rfl) dL_law_668 rfl ?_
  refine x_ic_eq (tgt := 1901) dL_law_671 (by decide) h (fun h => ?_) (fun h => ?_)
  · refine x_iinc (v := (x3 + 10)) (lo' := [(3, z_i (x3 + 10)), (0, z_r 99 (some 0)), (1, z_r 11 (some n1)), (2, z_r 12 (some n2))]) 3 dL_law_1901 rfl (congrArg (HAdd.hAdd x3) (by decide)) (by decide) rfl ?_
    refine x_goto (tgt := 18) dL_law_1904 (by decide) ?_
    cases h
    exact x_lo [1, 2, 3, 0] rfl k
  · cases h
set_option maxRecDepth 20000 in
theorem k_L_law_676 {L : Nat} {xs : Nat → Int32} {n1 : Nat} {n2 : Nat} {x3 : Int32}   {S : ZH} {z : (Int32 × ZH) ⊕ (ZH)} (h : j_L_law_676 L xs n1 n2 x3 S = some z) (k : Sum.elim (fun v : Int32 × ZH => Wp Y_L_law zE (z_FL L xs) 18 [(0, z_r 99 (some 0)), (1, z_r 11 (some n1)), (2, z_r 12 (some n2)), (3, z_i v.1)] [] v.2) (fun t => Wp Y_L_law zE (z_FL L xs) 1907 [] [] t) z) : Wp Y_L_law zE (z_FL L xs) 676 [(0, z_r 99 (some 0)), (1, z_r 11 (some n1)), (2, z_r 12 (some n2)), (3, z_i x3)] [] S := by
  unfold j_L_law_676 at h
  refine x_aload_n 1 dL_law_676 rfl rfl ?_
  refine x_aload_n 0 dL_law_677 rfl rfl ?_
  refine x_iload_n 3 dL_law_678 rfl rfl ?_
  refine x_iconst (v := (1 : Int32)) dL_law_679 (by decide) ?_
  refine x_iadd dL_law_680 ?_
  refine x_sld dL_law_681 h (fun v94 hv94 h => ?_)
  refine x_aload_n 0 dL_law_682 rfl rfl ?_
  refine x_iload_n 3 dL_law_683 rfl rfl ?_
  refine x_iconst (v := (2 : Int32)) dL_law_684 (by decide) ?_
  refine x_iadd dL_law_685 ?_
  refine x_sld dL_law_686 h (fun v95 hv95 h => ?_)
  refine x_aload_n 0 dL_law_687 rfl rfl ?_
  refine x_iload_n 3 dL_law_688 rfl rfl ?_
  refine x_iconst (v := (3 : Int32)) dL_law_689 (by decide) ?_
  refine x_iadd dL_law_690 ?_
  refine x_sld dL_law_691 h (fun v96 hv96 h => ?_)
  refine x_aload_n 0 dL_law_692 rfl rfl ?_
  refine x_iload_n 3 dL_law_693 rfl rfl ?_
  refine x_iconst (v := (4 : Int32)) dL_law_694 (by decide) ?_
  refine x_iadd dL_law_695 ?_
  refine x_sld dL_law_696 h (fun v97 hv97 h => ?_)
  refine x_aload_n 0 dL_law_697 rfl rfl ?_
  refine x_iload_n 3 dL_law_698 rfl rfl ?_
  refine x_iconst (v := (5 : Int32)) dL_law_699 (by decide) ?_
  refine x_iadd dL_law_700 ?_
  refine x_sld dL_law_701 h (fun v98 hv98 h => ?_)
  refine x_aload_n 0 dL_law_702 rfl rfl ?_
  refine x_iload_n 3 dL_law_703 rfl rfl ?_
  refine x_bipush (v := (6 : Int32)) dL_law_704 (by decide) ?_
  refine x_iadd dL_law_706 ?_
  refine x_sld dL_law_707 h (fun v99 hv99 h => ?_)
  refine x_aload_n 0 dL_law_708 rfl rfl ?_
  refine x_iload_n 3 dL_law_709 rfl rfl ?_
  refine x_bipush (v := (7 : Int32)) dL_law_710 (by decide) ?_
  refine x_iadd dL_law_712 ?_
  refine x_sld dL_law_713 h (fun v100 hv100 h => ?_)
  refine x_aload_n 0 dL_law_714 rfl rfl ?_
  refine x_iload_n 3 dL_law_715 rfl rfl ?_
  refine x_bipush (v := (8 : Int32)) dL_law_716 (by decide) ?_
  refine x_iadd dL_law_718 ?_
  refine x_sld dL_law_719 h (fun v101 hv101 h => ?_)
  refine x_aload_n 0 dL_law_720 rfl rfl ?_
  refine x_iload_n 3 dL_law_721 rfl rfl ?_
  refine x_bipush (v := (9 : Int32)) dL_law_722 (by decide) ?_
  refine x_iadd dL_law_724 ?_
  refine x_sld dL_law_725 h (fun v102 hv102 h => ?_)
  refine z_bnd h (fun q103 hq103 h => ?_)
  refine x_callV1 rfl (w_X11_paper hq103) cw_X11_paper q_472 ⟨by decide, by decide⟩ (Nat.le_of_ble_eq_true rfl) dL_law_726 rfl ?_
  refine x_aload_n 2 dL_law_729 rfl rfl ?_
  refine x_aload_n 0 dL_law_730 rfl rfl ?_
  refine x_iload_n 3 dL_law_731 rfl rfl ?_
  refine x_iconst (v := (1 : Int32)) dL_law_732 (by decide) ?_
  refine x_iadd dL_law_733 ?_
  refine x_sld dL_law_734 h (fun v104 hv104 h => ?_)
  refine x_aload_n 0 dL_law_735 rfl rfl ?_
  refine x_iload_n 3 dL_law_736 rfl rfl ?_
  refine x_iconst (v := (2 : Int32)) dL_law_737 (by decide) ?_
  refine x_iadd dL_law_738 ?_
  refine x_sld dL_law_739 h (fun v105 hv105 h => ?_)
  refine x_aload_n 0 dL_law_740 rfl rfl ?_
  refine x_iload_n 3 dL_law_741 rfl rfl ?_
  refine x_iconst (v := (3 : Int32)) dL_law_742 (by decide) ?_
  refine x_iadd dL_law_743 ?_
  refine x_sld dL_law_744 h (fun v106 hv106 h => ?_)
  refine x_aload_n 0 dL_law_745 rfl rfl ?_
  refine x_iload_n 3 dL_law_746 rfl rfl ?_
  refine x_iconst (v := (4 : Int32)) dL_law_747 (by decide) ?_
  refine x_iadd dL_law_748 ?_
  refine x_sld dL_law_749 h (fun v107 hv107 h => ?_)
  refine x_aload_n 0 dL_law_750 rfl rfl ?_
  refine x_iload_n 3 dL_law_751 rfl rfl ?_
  refine x_iconst (v := (5 : Int32)) dL_law_752 (by decide) ?_
  refine x_iadd dL_law_753 ?_
  refine x_sld dL_law_754 h (fun v108 hv108 h => ?_)
  refine x_aload_n 0 dL_law_755 rfl rfl ?_
  refine x_iload_n 3 dL_law_756 rfl rfl ?_
  refine x_bipush (v := (6 : Int32)) dL_law_757 (by decide) ?_
  refine x_iadd dL_law_759 ?_
  refine x_sld dL_law_760 h (fun v109 hv109 h => ?_)
  refine x_aload_n 0 dL_law_761 rfl rfl ?_
  refine x_iload_n 3 dL_law_762 rfl rfl ?_
  refine x_bipush (v := (7 : Int32)) dL_law_763 (by decide) ?_
  refine x_iadd dL_law_765 ?_
  refine x_sld dL_law_766 h (fun v110 hv110 h => ?_)
  refine x_aload_n 0 dL_law_767 rfl rfl ?_
  refine x_iload_n 3 dL_law_768 rfl rfl ?_
  refine x_bipush (v := (8 : Int32)) dL_law_769 (by decide) ?_
  refine x_iadd dL_law_771 ?_
  refine x_sld dL_law_772 h (fun v111 hv111 h => ?_)
  refine x_aload_n 0 dL_law_773 rfl rfl ?_
  refine x_iload_n 3 dL_law_774 rfl rfl ?_
  refine x_bipush (v := (9 : Int32)) dL_law_775 (by decide) ?_
  refine x_iadd dL_law_777 ?_
  refine x_sld dL_law_778 h (fun v112 hv112 h => ?_)
  refine z_bnd h (fun q113 hq113 h => ?_)
  refine x_callV1 rfl (w_X12_paper hq113) cw_X12_paper q_1264 ⟨by decide, by decide⟩ (Nat.le_of_ble_eq_true rfl) dL_law_779 rfl ?_
  refine x_ic_eq (tgt := 1901) dL_law_782 (by decide) h (fun h => ?_) (fun h => ?_)
  · refine x_iinc (v := (x3 + 10)) (lo' := [(3, z_i (x3 + 10)), (0, z_r 99 (some 0)), (1, z_r 11 (some n1)), (2, z_r 12 (some n2))]) 3 dL_law_1901 rfl (congrArg (HAdd.hAdd x3) (by decide)) (by decide) rfl ?_
    refine x_goto (tgt := 18) dL_law_1904 (by decide) ?_
    cases h
    exact x_lo [1, 2, 3, 0] rfl k
  · cases h
set_option maxRecDepth 20000 in
theorem k_L_law_787 {L : Nat} {xs : Nat → Int32} {n1 : Nat} {n2 : Nat} {x3 : Int32}   {S : ZH} {z : (Int32 × ZH) ⊕ (ZH)} (h : j_L_law_787 L xs n1 n2 x3 S = some z) (k : Sum.elim (fun v : Int32 × ZH => Wp Y_L_law zE (z_FL L xs) 18 [(0, z_r 99 (some 0)), (1, z_r 11 (some n1)), (2, z_r 12 (some n2)), (3, z_i v.1)] [] v.2) (fun t => Wp Y_L_law zE (z_FL L xs) 1907 [] [] t) z) : Wp Y_L_law zE (z_FL L xs) 787 [(0, z_r 99 (some 0)), (1, z_r 11 (some n1)), (2, z_r 12 (some n2)), (3, z_i x3)] [] S := by
  unfold j_L_law_787 at h
  refine x_aload_n 1 dL_law_787 rfl rfl ?_
  refine x_aload_n 0 dL_law_788 rfl rfl ?_
  refine x_iload_n 3 dL_law_789 rfl rfl ?_
  refine x_iconst (v := (1 : Int32)) dL_law_790 (by decide) ?_
  refine x_iadd dL_law_791 ?_
  refine x_sld dL_law_792 h (fun v115 hv115 h => ?_)
  refine x_aload_n 0 dL_law_793 rfl rfl ?_
  refine x_iload_n 3 dL_law_794 rfl rfl ?_
  refine x_iconst (v := (2 : Int32)) dL_law_795 (by decide) ?_
  refine x_iadd dL_law_796 ?_
  refine x_sld dL_law_797 h (fun v116 hv116 h => ?_)
  refine x_aload_n 0 dL_law_798 rfl rfl ?_
  refine x_iload_n 3 dL_law_799 rfl rfl ?_
  refine x_iconst (v := (3 : Int32)) dL_law_800 (by decide) ?_
  refine x_iadd dL_law_801 ?_
  refine x_sld dL_law_802 h (fun v117 hv117 h => ?_)
  refine z_bnd h (fun q118 hq118 h => ?_)
  refine x_callV1 rfl (w_X11_cover hq118) cw_X11_cover q_520 ⟨by decide, by decide⟩ (Nat.le_of_ble_eq_true rfl) dL_law_803 rfl ?_
  refine x_aload_n 2 dL_law_806 rfl rfl ?_
  refine x_aload_n 0 dL_law_807 rfl rfl ?_
  refine x_iload_n 3 dL_law_808 rfl rfl ?_
  refine x_iconst (v := (1 : Int32)) dL_law_809 (by decide) ?_
  refine x_iadd dL_law_810 ?_
  refine x_sld dL_law_811 h (fun v119 hv119 h => ?_)
  refine x_aload_n 0 dL_law_812 rfl rfl ?_
  refine x_iload_n 3 dL_law_813 rfl rfl ?_
  refine x_iconst (v := (2 : Int32)) dL_law_814 (by decide) ?_
  refine x_iadd dL_law_815 ?_
  refine x_sld dL_law_816 h (fun v120 hv120 h => ?_)
  refine x_aload_n 0 dL_law_817 rfl rfl ?_
  refine x_iload_n 3 dL_law_818 rfl rfl ?_
  refine x_iconst (v := (3 : Int32)) dL_law_819 (by decide) ?_
  refine x_iadd dL_law_820 ?_
  refine x_sld dL_law_821 h (fun v121 hv121 h => ?_)
  refine z_bnd h (fun q122 hq122 h => ?_)
  refine x_callV1 rfl (w_X12_cover hq122) cw_X12_cover q_1274 ⟨by decide, by decide⟩ (Nat.le_of_ble_eq_true rfl) dL_law_822 rfl ?_
  refine x_ic_eq (tgt := 1901) dL_law_825 (by decide) h (fun h => ?_) (fun h => ?_)
  · refine x_iinc (v := (x3 + 10)) (lo' := [(3, z_i (x3 + 10)), (0, z_r 99 (some 0)), (1, z_r 11 (some n1)), (2, z_r 12 (some n2))]) 3 dL_law_1901 rfl (congrArg (HAdd.hAdd x3) (by decide)) (by decide) rfl ?_
    refine x_goto (tgt := 18) dL_law_1904 (by decide) ?_
    cases h
    exact x_lo [1, 2, 3, 0] rfl k
  · cases h
set_option maxRecDepth 20000 in
theorem k_L_law_830 {L : Nat} {xs : Nat → Int32} {n1 : Nat} {n2 : Nat} {x3 : Int32}   {S : ZH} {z : (Int32 × ZH) ⊕ (ZH)} (h : j_L_law_830 L xs n1 n2 x3 S = some z) (k : Sum.elim (fun v : Int32 × ZH => Wp Y_L_law zE (z_FL L xs) 18 [(0, z_r 99 (some 0)), (1, z_r 11 (some n1)), (2, z_r 12 (some n2)), (3, z_i v.1)] [] v.2) (fun t => Wp Y_L_law zE (z_FL L xs) 1907 [] [] t) z) : Wp Y_L_law zE (z_FL L xs) 830 [(0, z_r 99 (some 0)), (1, z_r 11 (some n1)), (2, z_r 12 (some n2)), (3, z_i x3)] [] S := by
  unfold j_L_law_830 at h
  refine x_aload_n 1 dL_law_830 rfl rfl ?_
  refine x_aload_n 0 dL_law_831 rfl rfl ?_
  refine x_iload_n 3 dL_law_832 rfl rfl ?_
  refine x_iconst (v := (1 : Int32)) dL_law_833 (by decide) ?_
  refine x_iadd dL_law_834 ?_
  refine x_sld dL_law_835 h (fun v124 hv124 h => ?_)
  refine x_aload_n 0 dL_law_836 rfl rfl ?_
  refine x_iload_n 3 dL_law_837 rfl rfl ?_
  refine x_iconst (v := (2 : Int32)) dL_law_838 (by decide) ?_
  refine x_iadd dL_law_839 ?_
  refine x_sld dL_law_840 h (fun v125 hv125 h => ?_)
  refine z_bnd h (fun q126 hq126 h => ?_)
  refine x_callV1 rfl (w_X11_same hq126) cw_X11_same q_548 ⟨by decide, by decide⟩ (Nat.le_of_ble_eq_true rfl) dL_law_841 rfl ?_
  refine x_aload_n 2 dL_law_844 rfl rfl ?_
  refine x_aload_n 0 dL_law_845 rfl rfl ?_
  refine x_iload_n 3 dL_law_846 rfl rfl ?_
  refine x_iconst (v := (1 : Int32)) dL_law_847 (by decide) ?_
  refine x_iadd dL_law_848 ?_
  refine x_sld dL_law_849 h (fun v127 hv127 h => ?_)
  refine x_aload_n 0 dL_law_850 rfl rfl ?_
  refine x_iload_n 3 dL_law_851 rfl rfl ?_
  refine x_iconst (v := (2 : Int32)) dL_law_852 (by decide) ?_
  refine x_iadd dL_law_853 ?_
  refine x_sld dL_law_854 h (fun v128 hv128 h => ?_)
  refine z_bnd h (fun q129 hq129 h => ?_)
  refine x_callV1 rfl (w_X12_same hq129) cw_X12_same q_1290 ⟨by decide, by decide⟩ (Nat.le_of_ble_eq_true rfl) dL_law_855 rfl ?_
  refine x_ic_eq (tgt := 1901) dL_law_858 (by decide) h (fun h => ?_) (fun h => ?_)
  · refine x_iinc (v := (x3 + 10)) (lo' := [(3, z_i (x3 + 10)), (0, z_r 99 (some 0)), (1, z_r 11 (some n1)), (2, z_r 12 (some n2))]) 3 dL_law_1901 rfl (congrArg (HAdd.hAdd x3) (by decide)) (by decide) rfl ?_
    refine x_goto (tgt := 18) dL_law_1904 (by decide) ?_
    cases h
    exact x_lo [1, 2, 3, 0] rfl k
  · cases h
set_option maxRecDepth 20000 in
theorem k_L_law_863 {L : Nat} {xs : Nat → Int32} {n1 : Nat} {n2 : Nat} {x3 : Int32}   {S : ZH} {z : (Int32 × ZH) ⊕ (ZH)} (h : j_L_law_863 L xs n1 n2 x3 S = some z) (k : Sum.elim (fun v : Int32 × ZH => Wp Y_L_law zE (z_FL L xs) 18 [(0, z_r 99 (some 0)), (1, z_r 11 (some n1)), (2, z_r 12 (some n2)), (3, z_i v.1)] [] v.2) (fun t => Wp Y_L_law zE (z_FL L xs) 1907 [] [] t) z) : Wp Y_L_law zE (z_FL L xs) 863 [(0, z_r 99 (some 0)), (1, z_r 11 (some n1)), (2, z_r 12 (some n2)), (3, z_i x3)] [] S := by
  unfold j_L_law_863 at h
  refine x_aload_n 1 dL_law_863 rfl rfl ?_
  refine x_aload_n 0 dL_law_864 rfl rfl ?_
  refine x_iload_n 3 dL_law_865 rfl rfl ?_
  refine x_iconst (v := (1 : Int32)) dL_law_866 (by decide) ?_
  refine x_iadd dL_law_867 ?_
  refine x_sld dL_law_868 h (fun v131 hv131 h => ?_)
  refine x_aload_n 0 dL_law_869 rfl rfl ?_
  refine x_iload_n 3 dL_law_870 rfl rfl ?_
  refine x_iconst (v := (2 : Int32)) dL_law_871 (by decide) ?_
  refine x_iadd dL_law_872 ?_
  refine x_sld dL_law_873 h (fun v132 hv132 h => ?_)
  refine z_bnd h (fun q133 hq133 h => ?_)
  refine x_callV1 rfl (w_X11_shown hq133) cw_X11_shown q_552 ⟨by decide, by decide⟩ (Nat.le_of_ble_eq_true rfl) dL_law_874 rfl ?_
  refine x_aload_n 2 dL_law_877 rfl rfl ?_
  refine x_aload_n 0 dL_law_878 rfl rfl ?_
  refine x_iload_n 3 dL_law_879 rfl rfl ?_
  refine x_iconst (v := (1 : Int32)) dL_law_880 (by decide) ?_
  refine x_iadd dL_law_881 ?_
  refine x_sld dL_law_882 h (fun v134 hv134 h => ?_)
  refine x_aload_n 0 dL_law_883 rfl rfl ?_
  refine x_iload_n 3 dL_law_884 rfl rfl ?_
  refine x_iconst (v := (2 : Int32)) dL_law_885 (by decide) ?_
  refine x_iadd dL_law_886 ?_
  refine x_sld dL_law_887 h (fun v135 hv135 h => ?_)
  refine z_bnd h (fun q136 hq136 h => ?_)
  refine x_callV1 rfl (w_X12_shown hq136) cw_X12_shown q_1294 ⟨by decide, by decide⟩ (Nat.le_of_ble_eq_true rfl) dL_law_888 rfl ?_
  refine x_ic_eq (tgt := 1901) dL_law_891 (by decide) h (fun h => ?_) (fun h => ?_)
  · refine x_iinc (v := (x3 + 10)) (lo' := [(3, z_i (x3 + 10)), (0, z_r 99 (some 0)), (1, z_r 11 (some n1)), (2, z_r 12 (some n2))]) 3 dL_law_1901 rfl (congrArg (HAdd.hAdd x3) (by decide)) (by decide) rfl ?_
    refine x_goto (tgt := 18) dL_law_1904 (by decide) ?_
    cases h
    exact x_lo [1, 2, 3, 0] rfl k
  · cases h
set_option maxRecDepth 20000 in
theorem k_L_law_896 {L : Nat} {xs : Nat → Int32} {n1 : Nat} {n2 : Nat} {x3 : Int32}   {S : ZH} {z : (Int32 × ZH) ⊕ (ZH)} (h : j_L_law_896 L xs n1 n2 x3 S = some z) (k : Sum.elim (fun v : Int32 × ZH => Wp Y_L_law zE (z_FL L xs) 18 [(0, z_r 99 (some 0)), (1, z_r 11 (some n1)), (2, z_r 12 (some n2)), (3, z_i v.1)] [] v.2) (fun t => Wp Y_L_law zE (z_FL L xs) 1907 [] [] t) z) : Wp Y_L_law zE (z_FL L xs) 896 [(0, z_r 99 (some 0)), (1, z_r 11 (some n1)), (2, z_r 12 (some n2)), (3, z_i x3)] [] S := by
  unfold j_L_law_896 at h
  refine x_aload_n 1 dL_law_896 rfl rfl ?_
  refine x_aload_n 0 dL_law_897 rfl rfl ?_
  refine x_iload_n 3 dL_law_898 rfl rfl ?_
  refine x_iconst (v := (1 : Int32)) dL_law_899 (by decide) ?_
  refine x_iadd dL_law_900 ?_
  refine x_sld dL_law_901 h (fun v138 hv138 h => ?_)
  refine z_bnd h (fun q139 hq139 h => ?_)
  refine x_callV1 rfl (w_X11_act hq139) cw_X11_act q_567 ⟨by decide, by decide⟩ (Nat.le_of_ble_eq_true rfl) dL_law_902 rfl ?_
  refine x_aload_n 2 dL_law_905 rfl rfl ?_
  refine x_aload_n 0 dL_law_906 rfl rfl ?_
  refine x_iload_n 3 dL_law_907 rfl rfl ?_
  refine x_iconst (v := (1 : Int32)) dL_law_908 (by decide) ?_
  refine x_iadd dL_law_909 ?_
  refine x_sld dL_law_910 h (fun v140 hv140 h => ?_)
  refine z_bnd h (fun q141 hq141 h => ?_)
  refine x_callV1 rfl (w_X12_act hq141) cw_X12_act q_1298 ⟨by decide, by decide⟩ (Nat.le_of_ble_eq_true rfl) dL_law_911 rfl ?_
  refine x_ic_eq (tgt := 1901) dL_law_914 (by decide) h (fun h => ?_) (fun h => ?_)
  · refine x_iinc (v := (x3 + 10)) (lo' := [(3, z_i (x3 + 10)), (0, z_r 99 (some 0)), (1, z_r 11 (some n1)), (2, z_r 12 (some n2))]) 3 dL_law_1901 rfl (congrArg (HAdd.hAdd x3) (by decide)) (by decide) rfl ?_
    refine x_goto (tgt := 18) dL_law_1904 (by decide) ?_
    cases h
    exact x_lo [1, 2, 3, 0] rfl k
  · cases h
set_option maxRecDepth 20000 in
theorem k_L_law_919 {L : Nat} {xs : Nat → Int32} {n1 : Nat} {n2 : Nat} {x3 : Int32}   {S : ZH} {z : (Int32 × ZH) ⊕ (ZH)} (h : j_L_law_919 L xs n1 n2 x3 S = some z) (k : Sum.elim (fun v : Int32 × ZH => Wp Y_L_law zE (z_FL L xs) 18 [(0, z_r 99 (some 0)), (1, z_r 11 (some n1)), (2, z_r 12 (some n2)), (3, z_i v.1)] [] v.2) (fun t => Wp Y_L_law zE (z_FL L xs) 1907 [] [] t) z) : Wp Y_L_law zE (z_FL L xs) 919 [(0, z_r 99 (some 0)), (1, z_r 11 (some n1)), (2, z_r 12 (some n2)), (3, z_i x3)] [] S := by
  unfold j_L_law_919 at h
  refine x_aload_n 1 dL_law_919 rfl rfl ?_
  refine x_aload_n 0 dL_law_920 rfl rfl ?_
  refine x_iload_n 3 dL_law_921 rfl rfl ?_
  refine x_iconst (v := (1 : Int32)) dL_law_922 (by decide) ?_
  refine x_iadd dL_law_923 ?_
  refine x_sld dL_law_924 h (fun v143 hv143 h => ?_)
  refine x_aload_n 0 dL_law_925 rfl rfl ?_
  refine x_iload_n 3 dL_law_926 rfl rfl ?_
  refine x_iconst (v := (2 : Int32)) dL_law_927 (by decide) ?_
  refine x_iadd dL_law_928 ?_
  refine x_sld dL_law_929 h (fun v144 hv144 h => ?_)
  refine z_bnd h (fun q145 hq145 h => ?_)
  refine x_callV1 rfl (w_X11_sign hq145) cw_X11_sign q_598 ⟨by decide, by decide⟩ (Nat.le_of_ble_eq_true rfl) dL_law_930 rfl ?_
  refine x_aload_n 2 dL_law_933 rfl rfl ?_
  refine x_aload_n 0 dL_law_934 rfl rfl ?_
  refine x_iload_n 3 dL_law_935 rfl rfl ?_
  refine x_iconst (v := (1 : Int32)) dL_law_936 (by decide) ?_
  refine x_iadd dL_law_937 ?_
  refine x_sld dL_law_938 h (fun v146 hv146 h => ?_)
  refine x_aload_n 0 dL_law_939 rfl rfl ?_
  refine x_iload_n 3 dL_law_940 rfl rfl ?_
  refine x_iconst (v := (2 : Int32)) dL_law_941 (by decide) ?_
  refine x_iadd dL_law_942 ?_
  refine x_sld dL_law_943 h (fun v147 hv147 h => ?_)
  refine z_bnd h (fun q148 hq148 h => ?_)
  refine x_callV1 rfl (w_X12_sign hq148) cw_X12_sign q_1302 ⟨by decide, by decide⟩ (Nat.le_of_ble_eq_true rfl) dL_law_944 rfl ?_
  refine x_ic_eq (tgt := 1901) dL_law_947 (by decide) h (fun h => ?_) (fun h => ?_)
  · refine x_iinc (v := (x3 + 10)) (lo' := [(3, z_i (x3 + 10)), (0, z_r 99 (some 0)), (1, z_r 11 (some n1)), (2, z_r 12 (some n2))]) 3 dL_law_1901 rfl (congrArg (HAdd.hAdd x3) (by decide)) (by decide) rfl ?_
    refine x_goto (tgt := 18) dL_law_1904 (by decide) ?_
    cases h
    exact x_lo [1, 2, 3, 0] rfl k
  · cases h
set_option maxRecDepth 20000 in
theorem k_L_law_952 {L : Nat} {xs : Nat → Int32} {n1 : Nat} {n2 : Nat} {x3 : Int32}   {S : ZH} {z : (Int32 × ZH) ⊕ (ZH)} (h : j_L_law_952 L xs n1 n2 x3 S = some z) (k : Sum.elim (fun v : Int32 × ZH => Wp Y_L_law zE (z_FL L xs) 18 [(0, z_r 99 (some 0)), (1, z_r 11 (some n1)), (2, z_r 12 (some n2)), (3, z_i v.1)] [] v.2) (fun t => Wp Y_L_law zE (z_FL L xs) 1907 [] [] t) z) : Wp Y_L_law zE (z_FL L xs) 952 [(0, z_r 99 (some 0)), (1, z_r 11 (some n1)), (2, z_r 12 (some n2)), (3, z_i x3)] [] S := by
  unfold j_L_law_952 at h
  refine x_aload_n 1 dL_law_952 rfl rfl ?_
  refine x_aload_n 0 dL_law_953 rfl rfl ?_
  refine x_iload_n 3 dL_law_954 rfl rfl ?_
  refine x_iconst (v := (1 : Int32)) dL_law_955 (by decide) ?_
  refine x_iadd dL_law_956 ?_
  refine x_sld dL_law_957 h (fun v150 hv150 h => ?_)
  refine z_bnd h (fun q151 hq151 h => ?_)
  refine x_callV1 rfl (w_X11_fault hq151) cw_X11_fault q_622 ⟨by decide, by decide⟩ (Nat.le_of_ble_eq_true rfl) dL_law_958 rfl ?_
  refine x_aload_n 2 dL_law_961 rfl rfl ?_
  refine x_aload_n 0 dL_law_962 rfl rfl ?_
  refine x_iload_n 3 dL_law_963 rfl rfl ?_
  refine x_iconst (v := (1 : Int32)) dL_law_964 (by decide) ?_
  refine x_iadd dL_law_965 ?_
  refine x_sld dL_law_966 h (fun v152 hv152 h => ?_)
  refine z_bnd h (fun q153 hq153 h => ?_)
  refine x_callV1 rfl (w_X12_fault hq153) cw_X12_fault q_1308 ⟨by decide, by decide⟩ (Nat.le_of_ble_eq_true rfl) dL_law_967 rfl ?_
  refine x_ic_eq (tgt := 1901) dL_law_970 (by decide) h (fun h => ?_) (fun h => ?_)
  · refine x_iinc (v := (x3 + 10)) (lo' := [(3, z_i (x3 + 10)), (0, z_r 99 (some 0)), (1, z_r 11 (some n1)), (2, z_r 12 (some n2))]) 3 dL_law_1901 rfl (congrArg (HAdd.hAdd x3) (by decide)) (by decide) rfl ?_
    refine x_goto (tgt := 18) dL_law_1904 (by decide) ?_
    cases h
    exact x_lo [1, 2, 3, 0] rfl k
  · cases h
set_option maxRecDepth 20000 in
theorem k_L_law_975 {L : Nat} {xs : Nat → Int32} {n1 : Nat} {n2 : Nat} {x3 : Int32}   {S : ZH} {z : (Int32 × ZH) ⊕ (ZH)} (h : j_L_law_975 L xs n1 n2 x3 S = some z) (k : Sum.elim (fun v : Int32 × ZH => Wp Y_L_law zE (z_FL L xs) 18 [(0, z_r 99 (some 0)), (1, z_r 11 (some n1)), (2, z_r 12 (some n2)), (3, z_i v.1)] [] v.2) (fun t => Wp Y_L_law zE (z_FL L xs) 1907 [] [] t) z) : Wp Y_L_law zE (z_FL L xs) 975 [(0, z_r 99 (some 0)), (1, z_r 11 (some n1)), (2, z_r 12 (some n2)), (3, z_i x3)] [] S := by
  unfold j_L_law_975 at h
  refine x_aload_n 1 dL_law_975 rfl rfl ?_
  refine x_aload_n 0 dL_law_976 rfl rfl ?_
  refine x_iload_n 3 dL_law_977 rfl rfl ?_
  refine x_iconst (v := (1 : Int32)) dL_law_978 (by decide) ?_
  refine x_iadd dL_law_979 ?_
  refine x_sld dL_law_980 h (fun v155 hv155 h => ?_)
  refine z_bnd h (fun q156 hq156 h => ?_)
  refine x_callV1 rfl (w_X11_force hq156) cw_X11_force q_630 ⟨by decide, by decide⟩ (Nat.le_of_ble_eq_true rfl) dL_law_981 rfl ?_
  refine x_aload_n 2 dL_law_984 rfl rfl ?_
  refine x_aload_n 0 dL_law_985 rfl rfl ?_
  refine x_iload_n 3 dL_law_986 rfl rfl ?_
  refine x_iconst (v := (1 : Int32)) dL_law_987 (by decide) ?_
  refine x_iadd dL_law_988 ?_
  refine x_sld dL_law_989 h (fun v157 hv157 h => ?_)
  refine z_bnd h (fun q158 hq158 h => ?_)
  refine x_callV1 rfl (w_X12_force hq158) cw_X12_force q_1321 ⟨by decide, by decide⟩ (Nat.le_of_ble_eq_true rfl) dL_law_990 rfl ?_
  refine x_ic_eq (tgt := 1901) dL_law_993 (by decide) h (fun h => ?_) (fun h => ?_)
  · refine x_iinc (v := (x3 + 10)) (lo' := [(3, z_i (x3 + 10)), (0, z_r 99 (some 0)), (1, z_r 11 (some n1)), (2, z_r 12 (some n2))]) 3 dL_law_1901 rfl (congrArg (HAdd.hAdd x3) (by decide)) (by decide) rfl ?_
    refine x_goto (tgt := 18) dL_law_1904 (by decide) ?_
    cases h
    exact x_lo [1, 2, 3, 0] rfl k
  · cases h
set_option maxRecDepth 20000 in
theorem k_L_law_998 {L : Nat} {xs : Nat → Int32} {n1 : Nat} {n2 : Nat} {x3 : Int32}   {S : ZH} {z : (Int32 × ZH) ⊕ (ZH)} (h : j_L_law_998 L xs n1 n2 x3 S = some z) (k : Sum.elim (fun v : Int32 × ZH => Wp Y_L_law zE (z_FL L xs) 18 [(0, z_r 99 (some 0)), (1, z_r 11 (some n1)), (2, z_r 12 (some n2)), (3, z_i v.1)] [] v.2) (fun t => Wp Y_L_law zE (z_FL L xs) 1907 [] [] t) z) : Wp Y_L_law zE (z_FL L xs) 998 [(0, z_r 99 (some 0)), (1, z_r 11 (some n1)), (2, z_r 12 (some n2)), (3, z_i x3)] [] S := by
  unfold j_L_law_998 at h
  refine x_aload_n 1 dL_law_998 rfl rfl ?_
  refine x_aload_n 0 dL_law_999 rfl rfl ?_
  refine x_iload_n 3 dL_law_1000 rfl rfl ?_
  refine x_iconst (v := (1 : Int32)) dL_law_1001 (by decide) ?_
  refine x_iadd dL_law_1002 ?_
  refine x_sld dL_law_1003 h (fun v160 hv160 h => ?_)
  refine x_aload_n 0 dL_law_1004 rfl rfl ?_
  refine x_iload_n 3 dL_law_1005 rfl rfl ?_
  refine x_iconst (v := (2 : Int32)) dL_law_1006 (by decide) ?_
  refine x_iadd dL_law_1007 ?_
  refine x_sld dL_law_1008 h (fun v161 hv161 h => ?_)
  refine z_bnd h (fun q162 hq162 h => ?_)
  refine x_callV1 rfl (w_X11_may hq162) cw_X11_may q_638 ⟨by decide, by decide⟩ (Nat.le_of_ble_eq_true rfl) dL_law_1009 rfl ?_
  refine x_aload_n 2 dL_law_1012 rfl rfl ?_
  refine x_aload_n 0 dL_law_1013 rfl rfl ?_
  refine x_iload_n 3 dL_law_1014 rfl rfl ?_
  refine x_iconst (v := (1 : Int32)) dL_law_1015 (by decide) ?_
  refine x_iadd dL_law_1016 ?_
  refine x_sld dL_law_1017 h (fun v163 hv163 h => ?_)
  refine x_aload_n 0 dL_law_1018 rfl rfl ?_
  refine x_iload_n 3 dL_law_1019 rfl rfl ?_
  refine x_iconst (v := (2 : Int32)) dL_law_1020 (by decide) ?_
  refine x_iadd dL_law_1021 ?_
  refine x_sld dL_law_1022 h (fun v164 hv164 h => ?_)
  refine z_bnd h (fun q165 hq165 h => ?_)
  refine x_callV1 rfl (w_X12_may hq165) cw_X12_may q_1329 ⟨by decide, by decide⟩ (Nat.le_of_ble_eq_true rfl) dL_law_1023 rfl ?_
  refine x_ic_eq (tgt := 1901) dL_law_1026 (by decide) h (fun h => ?_) (fun h => ?_)
  · refine x_iinc (v := (x3 + 10)) (lo' := [(3, z_i (x3 + 10)), (0, z_r 99 (some 0)), (1, z_r 11 (some n1)), (2, z_r 12 (some n2))]) 3 dL_law_1901 rfl (congrArg (HAdd.hAdd x3) (by decide)) (by decide) rfl ?_
    refine x_goto (tgt := 18) dL_law_1904 (by decide) ?_
    cases h
    exact x_lo [1, 2, 3, 0] rfl k
  · cases h
set_option maxRecDepth 20000 in
theorem k_L_law_1031 {L : Nat} {xs : Nat → Int32} {n1 : Nat} {n2 : Nat} {x3 : Int32}   {S : ZH} {z : (Int32 × ZH) ⊕ (ZH)} (h : j_L_law_1031 L xs n1 n2 x3 S = some z) (k : Sum.elim (fun v : Int32 × ZH => Wp Y_L_law zE (z_FL L xs) 18 [(0, z_r 99 (some 0)), (1, z_r 11 (some n1)), (2, z_r 12 (some n2)), (3, z_i v.1)] [] v.2) (fun t => Wp Y_L_law zE (z_FL L xs) 1907 [] [] t) z) : Wp Y_L_law zE (z_FL L xs) 1031 [(0, z_r 99 (some 0)), (1, z_r 11 (some n1)), (2, z_r 12 (some n2)), (3, z_i x3)] [] S := by
  unfold j_L_law_1031 at h
  refine x_aload_n 1 dL_law_1031 rfl rfl ?_
  refine x_aload_n 0 dL_law_1032 rfl rfl ?_
  refine x_iload_n 3 dL_law_1033 rfl rfl ?_
  refine x_iconst (v := (1 : Int32)) dL_law_1034 (by decide) ?_
  refine x_iadd dL_law_1035 ?_
  refine x_sld dL_law_1036 h (fun v167 hv167 h => ?_)
  refine z_bnd h (fun q168 hq168 h => ?_)
  refine x_callV1 rfl (w_X11_mayTruly hq168) cw_X11_mayTruly q_667 ⟨by decide, by decide⟩ (Nat.le_of_ble_eq_true rfl) dL_law_1037 rfl ?_
  refine x_aload_n 2 dL_law_1040 rfl rfl ?_
  refine x_aload_n 0 dL_law_1041 rfl rfl ?_
  refine x_iload_n 3 dL_law_1042 rfl rfl ?_
  refine x_iconst (v := (1 : Int32)) dL_law_1043 (by decide) ?_
  refine x_iadd dL_law_1044 ?_
  refine x_sld dL_law_1045 h (fun v169 hv169 h => ?_)
  refine z_bnd h (fun q170 hq170 h => ?_)
  refine x_callV1 rfl (w_X12_mayTruly hq170) cw_X12_mayTruly q_1349 ⟨by decide, by decide⟩ (Nat.le_of_ble_eq_true rfl) dL_law_1046 rfl ?_
  refine x_ic_eq (tgt := 1901) dL_law_1049 (by decide) h (fun h => ?_) (fun h => ?_)
  · refine x_iinc (v := (x3 + 10)) (lo' := [(3, z_i (x3 + 10)), (0, z_r 99 (some 0)), (1, z_r 11 (some n1)), (2, z_r 12 (some n2))]) 3 dL_law_1901 rfl (congrArg (HAdd.hAdd x3) (by decide)) (by decide) rfl ?_
    refine x_goto (tgt := 18) dL_law_1904 (by decide) ?_
    cases h
    exact x_lo [1, 2, 3, 0] rfl k
  · cases h
set_option maxRecDepth 20000 in
theorem k_L_law_1054 {L : Nat} {xs : Nat → Int32} {n1 : Nat} {n2 : Nat} {x3 : Int32}   {S : ZH} {z : (Int32 × ZH) ⊕ (ZH)} (h : j_L_law_1054 L xs n1 n2 x3 S = some z) (k : Sum.elim (fun v : Int32 × ZH => Wp Y_L_law zE (z_FL L xs) 18 [(0, z_r 99 (some 0)), (1, z_r 11 (some n1)), (2, z_r 12 (some n2)), (3, z_i v.1)] [] v.2) (fun t => Wp Y_L_law zE (z_FL L xs) 1907 [] [] t) z) : Wp Y_L_law zE (z_FL L xs) 1054 [(0, z_r 99 (some 0)), (1, z_r 11 (some n1)), (2, z_r 12 (some n2)), (3, z_i x3)] [] S := by
  unfold j_L_law_1054 at h
  refine x_aload_n 1 dL_law_1054 rfl rfl ?_
  refine x_aload_n 0 dL_law_1055 rfl rfl ?_
  refine x_iload_n 3 dL_law_1056 rfl rfl ?_
  refine x_iconst (v := (1 : Int32)) dL_law_1057 (by decide) ?_
  refine x_iadd dL_law_1058 ?_
  refine x_sld dL_law_1059 h (fun v172 hv172 h => ?_)
  refine x_aload_n 0 dL_law_1060 rfl rfl ?_
  refine x_iload_n 3 dL_law_1061 rfl rfl ?_
  refine x_iconst (v := (2 : Int32)) dL_law_1062 (by decide) ?_
  refine x_iadd dL_law_1063 ?_
  refine x_sld dL_law_1064 h (fun v173 hv173 h => ?_)
  refine z_bnd h (fun q174 hq174 h => ?_)
  refine x_callV1 rfl (w_X11_take hq174) cw_X11_take q_683 ⟨by decide, by decide⟩ (Nat.le_of_ble_eq_true rfl) dL_law_1065 rfl ?_
  refine x_aload_n 2 dL_law_1068 rfl rfl ?_
  refine x_aload_n 0 dL_law_1069 rfl rfl ?_
  refine x_iload_n 3 dL_law_1070 rfl rfl ?_
  refine x_iconst (v := (1 : Int32)) dL_law_1071 (by decide) ?_
  refine x_iadd dL_law_1072 ?_
  refine x_sld dL_law_1073 h (fun v175 hv175 h => ?_)
  refine x_aload_n 0 dL_law_1074 rfl rfl ?_
  refine x_iload_n 3 dL_law_1075 rfl rfl ?_
  refine x_iconst (v := (2 : Int32)) dL_law_1076 (by decide) ?_
  refine x_iadd dL_law_1077 ?_
  refine x_sld dL_law_1078 h (fun v176 hv176 h => ?_)
  refine z_bnd h (fun q177 hq177 h => ?_)
  refine x_callV1 rfl (w_X12_take hq177) cw_X12_take q_1357 ⟨by decide, by decide⟩ (Nat.le_of_ble_eq_true rfl) dL_law_1079 rfl ?_
  refine x_ic_eq (tgt := 1901) dL_law_1082 (by decide) h (fun h => ?_) (fun h => ?_)
  · refine x_iinc (v := (x3 + 10)) (lo' := [(3, z_i (x3 + 10)), (0, z_r 99 (some 0)), (1, z_r 11 (some n1)), (2, z_r 12 (some n2))]) 3 dL_law_1901 rfl (congrArg (HAdd.hAdd x3) (by decide)) (by decide) rfl ?_
    refine x_goto (tgt := 18) dL_law_1904 (by decide) ?_
    cases h
    exact x_lo [1, 2, 3, 0] rfl k
  · cases h
set_option maxRecDepth 20000 in
theorem k_L_law_1087 {L : Nat} {xs : Nat → Int32} {n1 : Nat} {n2 : Nat} {x3 : Int32}   {S : ZH} {z : (Int32 × ZH) ⊕ (ZH)} (h : j_L_law_1087 L xs n1 n2 x3 S = some z) (k : Sum.elim (fun v : Int32 × ZH => Wp Y_L_law zE (z_FL L xs) 18 [(0, z_r 99 (some 0)), (1, z_r 11 (some n1)), (2, z_r 12 (some n2)), (3, z_i v.1)] [] v.2) (fun t => Wp Y_L_law zE (z_FL L xs) 1907 [] [] t) z) : Wp Y_L_law zE (z_FL L xs) 1087 [(0, z_r 99 (some 0)), (1, z_r 11 (some n1)), (2, z_r 12 (some n2)), (3, z_i x3)] [] S := by
  unfold j_L_law_1087 at h
  refine x_aload_n 1 dL_law_1087 rfl rfl ?_
  refine x_aload_n 0 dL_law_1088 rfl rfl ?_
  refine x_iload_n 3 dL_law_1089 rfl rfl ?_
  refine x_iconst (v := (1 : Int32)) dL_law_1090 (by decide) ?_
  refine x_iadd dL_law_1091 ?_
  refine x_sld dL_law_1092 h (fun v179 hv179 h => ?_)
  refine x_aload_n 0 dL_law_1093 rfl rfl ?_
  refine x_iload_n 3 dL_law_1094 rfl rfl ?_
  refine x_iconst (v := (2 : Int32)) dL_law_1095 (by decide) ?_
  refine x_iadd dL_law_1096 ?_
  refine x_sld dL_law_1097 h (fun v180 hv180 h => ?_)
  refine z_bnd h (fun q181 hq181 h => ?_)
  refine x_callV1 rfl (w_X11_taking hq181) cw_X11_taking q_739 ⟨by decide, by decide⟩ (Nat.le_of_ble_eq_true rfl) dL_law_1098 rfl ?_
  refine x_aload_n 2 dL_law_1101 rfl rfl ?_
  refine x_aload_n 0 dL_law_1102 rfl rfl ?_
  refine x_iload_n 3 dL_law_1103 rfl rfl ?_
  refine x_iconst (v := (1 : Int32)) dL_law_1104 (by decide) ?_
  refine x_iadd dL_law_1105 ?_
  refine x_sld dL_law_1106 h (fun v182 hv182 h => ?_)
  refine x_aload_n 0 dL_law_1107 rfl rfl ?_
  refine x_iload_n 3 dL_law_1108 rfl rfl ?_
  refine x_iconst (v := (2 : Int32)) dL_law_1109 (by decide) ?_
  refine x_iadd dL_law_1110 ?_
  refine x_sld dL_law_1111 h (fun v183 hv183 h => ?_)
  refine z_bnd h (fun q184 hq184 h => ?_)
  refine x_callV1 rfl (w_X12_taking hq184) cw_X12_taking q_1365 ⟨by decide, by decide⟩ (Nat.le_of_ble_eq_true rfl) dL_law_1112 rfl ?_
  refine x_ic_eq (tgt := 1901) dL_law_1115 (by decide) h (fun h => ?_) (fun h => ?_)
  · refine x_iinc (v := (x3 + 10)) (lo' := [(3, z_i (x3 + 10)), (0, z_r 99 (some 0)), (1, z_r 11 (some n1)), (2, z_r 12 (some n2))]) 3 dL_law_1901 rfl (congrArg (HAdd.hAdd x3) (by decide)) (by decide) rfl ?_
    refine x_goto (tgt := 18) dL_law_1904 (by decide) ?_
    cases h
    exact x_lo [1, 2, 3, 0] rfl k
  · cases h
set_option maxRecDepth 20000 in
theorem k_L_law_1120 {L : Nat} {xs : Nat → Int32} {n1 : Nat} {n2 : Nat} {x3 : Int32}   {S : ZH} {z : (Int32 × ZH) ⊕ (ZH)} (h : j_L_law_1120 L xs n1 n2 x3 S = some z) (k : Sum.elim (fun v : Int32 × ZH => Wp Y_L_law zE (z_FL L xs) 18 [(0, z_r 99 (some 0)), (1, z_r 11 (some n1)), (2, z_r 12 (some n2)), (3, z_i v.1)] [] v.2) (fun t => Wp Y_L_law zE (z_FL L xs) 1907 [] [] t) z) : Wp Y_L_law zE (z_FL L xs) 1120 [(0, z_r 99 (some 0)), (1, z_r 11 (some n1)), (2, z_r 12 (some n2)), (3, z_i x3)] [] S := by
  unfold j_L_law_1120 at h
  refine x_aload_n 1 dL_law_1120 rfl rfl ?_
  refine z_bnd h (fun q186 hq186 h => ?_)
  refine x_callV1 rfl (w_X11_wronged hq186) cw_X11_wronged q_747 ⟨by decide, by decide⟩ (Nat.le_of_ble_eq_true rfl) dL_law_1121 rfl ?_
  refine x_aload_n 2 dL_law_1124 rfl rfl ?_
  refine z_bnd h (fun q187 hq187 h => ?_)
  refine x_callV1 rfl (w_X12_wronged hq187) cw_X12_wronged q_1369 ⟨by decide, by decide⟩ (Nat.le_of_ble_eq_true rfl) dL_law_1125 rfl ?_
  refine x_ic_eq (tgt := 1901) dL_law_1128 (by decide) h (fun h => ?_) (fun h => ?_)
  · refine x_iinc (v := (x3 + 10)) (lo' := [(3, z_i (x3 + 10)), (0, z_r 99 (some 0)), (1, z_r 11 (some n1)), (2, z_r 12 (some n2))]) 3 dL_law_1901 rfl (congrArg (HAdd.hAdd x3) (by decide)) (by decide) rfl ?_
    refine x_goto (tgt := 18) dL_law_1904 (by decide) ?_
    cases h
    exact x_lo [1, 2, 3, 0] rfl k
  · cases h
set_option maxRecDepth 20000 in
theorem k_L_law_1133 {L : Nat} {xs : Nat → Int32} {n1 : Nat} {n2 : Nat} {x3 : Int32}   {S : ZH} {z : (Int32 × ZH) ⊕ (ZH)} (h : j_L_law_1133 L xs n1 n2 x3 S = some z) (k : Sum.elim (fun v : Int32 × ZH => Wp Y_L_law zE (z_FL L xs) 18 [(0, z_r 99 (some 0)), (1, z_r 11 (some n1)), (2, z_r 12 (some n2)), (3, z_i v.1)] [] v.2) (fun t => Wp Y_L_law zE (z_FL L xs) 1907 [] [] t) z) : Wp Y_L_law zE (z_FL L xs) 1133 [(0, z_r 99 (some 0)), (1, z_r 11 (some n1)), (2, z_r 12 (some n2)), (3, z_i x3)] [] S := by
  unfold j_L_law_1133 at h
  refine x_aload_n 1 dL_law_1133 rfl rfl ?_
  refine x_aload_n 0 dL_law_1134 rfl rfl ?_
  refine x_iload_n 3 dL_law_1135 rfl rfl ?_
  refine x_iconst (v := (1 : Int32)) dL_law_1136 (by decide) ?_
  refine x_iadd dL_law_1137 ?_
  refine x_sld dL_law_1138 h (fun v189 hv189 h => ?_)
  refine z_bnd h (fun q190 hq190 h => ?_)
  refine x_callV1 rfl (w_X11_wrongedMan hq190) cw_X11_wrongedMan q_755 ⟨by decide, by decide⟩ (Nat.le_of_ble_eq_true rfl) dL_law_1139 rfl ?_
  refine x_aload_n 2 dL_law_1142 rfl rfl ?_
  refine x_aload_n 0 dL_law_1143 rfl rfl ?_
  refine x_iload_n 3 dL_law_1144 rfl rfl ?_
  refine x_iconst (v := (1 : Int32)) dL_law_1145 (by decide) ?_
  refine x_iadd dL_law_1146 ?_
  refine x_sld dL_law_1147 h (fun v191 hv191 h => ?_)
  refine z_bnd h (fun q192 hq192 h => ?_)
  refine x_callV1 rfl (w_X12_wrongedMan hq192) cw_X12_wrongedMan q_1377 ⟨by decide, by decide⟩ (Nat.le_of_ble_eq_true rfl) dL_law_1148 rfl ?_
  refine x_ic_eq (tgt := 1901) dL_law_1151 (by decide) h (fun h => ?_) (fun h => ?_)
  · refine x_iinc (v := (x3 + 10)) (lo' := [(3, z_i (x3 + 10)), (0, z_r 99 (some 0)), (1, z_r 11 (some n1)), (2, z_r 12 (some n2))]) 3 dL_law_1901 rfl (congrArg (HAdd.hAdd x3) (by decide)) (by decide) rfl ?_
    refine x_goto (tgt := 18) dL_law_1904 (by decide) ?_
    cases h
    exact x_lo [1, 2, 3, 0] rfl k
  · cases h
set_option maxRecDepth 20000 in
theorem k_L_law_1156 {L : Nat} {xs : Nat → Int32} {n1 : Nat} {n2 : Nat} {x3 : Int32}   {S : ZH} {z : (Int32 × ZH) ⊕ (ZH)} (h : j_L_law_1156 L xs n1 n2 x3 S = some z) (k : Sum.elim (fun v : Int32 × ZH => Wp Y_L_law zE (z_FL L xs) 18 [(0, z_r 99 (some 0)), (1, z_r 11 (some n1)), (2, z_r 12 (some n2)), (3, z_i v.1)] [] v.2) (fun t => Wp Y_L_law zE (z_FL L xs) 1907 [] [] t) z) : Wp Y_L_law zE (z_FL L xs) 1156 [(0, z_r 99 (some 0)), (1, z_r 11 (some n1)), (2, z_r 12 (some n2)), (3, z_i x3)] [] S := by
  unfold j_L_law_1156 at h
  refine x_aload_n 1 dL_law_1156 rfl rfl ?_
  refine x_aload_n 0 dL_law_1157 rfl rfl ?_
  refine x_iload_n 3 dL_law_1158 rfl rfl ?_
  refine x_iconst (v := (1 : Int32)) dL_law_1159 (by decide) ?_
  refine x_iadd dL_law_1160 ?_
  refine x_sld dL_law_1161 h (fun v194 hv194 h => ?_)
  refine z_bnd h (fun q195 hq195 h => ?_)
  refine x_callV1 rfl (w_X11_letGo hq195) cw_X11_letGo q_759 ⟨by decide, by decide⟩ (Nat.le_of_ble_eq_true rfl) dL_law_1162 rfl ?_
  refine x_aload_n 2 dL_law_1165 rfl rfl ?_
  refine x_aload_n 0 dL_law_1166 rfl rfl ?_
  refine x_iload_n 3 dL_law_1167 rfl rfl ?_
  refine x_iconst (v := (1 : Int32)) dL_law_1168 (by decide) ?_
  refine x_iadd dL_law_1169 ?_
  refine x_sld dL_law_1170 h (fun v196 hv196 h => ?_)
  refine z_bnd h (fun q197 hq197 h => ?_)
  refine x_callV1 rfl (w_X12_letGo hq197) cw_X12_letGo q_1381 ⟨by decide, by decide⟩ (Nat.le_of_ble_eq_true rfl) dL_law_1171 rfl ?_
  refine x_ic_eq (tgt := 1901) dL_law_1174 (by decide) h (fun h => ?_) (fun h => ?_)
  · refine x_iinc (v := (x3 + 10)) (lo' := [(3, z_i (x3 + 10)), (0, z_r 99 (some 0)), (1, z_r 11 (some n1)), (2, z_r 12 (some n2))]) 3 dL_law_1901 rfl (congrArg (HAdd.hAdd x3) (by decide)) (by decide) rfl ?_
    refine x_goto (tgt := 18) dL_law_1904 (by decide) ?_
    cases h
    exact x_lo [1, 2, 3, 0] rfl k
  · cases h
set_option maxRecDepth 20000 in
theorem k_L_law_1179 {L : Nat} {xs : Nat → Int32} {n1 : Nat} {n2 : Nat} {x3 : Int32}   {S : ZH} {z : (Int32 × ZH) ⊕ (ZH)} (h : j_L_law_1179 L xs n1 n2 x3 S = some z) (k : Sum.elim (fun v : Int32 × ZH => Wp Y_L_law zE (z_FL L xs) 18 [(0, z_r 99 (some 0)), (1, z_r 11 (some n1)), (2, z_r 12 (some n2)), (3, z_i v.1)] [] v.2) (fun t => Wp Y_L_law zE (z_FL L xs) 1907 [] [] t) z) : Wp Y_L_law zE (z_FL L xs) 1179 [(0, z_r 99 (some 0)), (1, z_r 11 (some n1)), (2, z_r 12 (some n2)), (3, z_i x3)] [] S := by
  unfold j_L_law_1179 at h
  refine x_aload_n 1 dL_law_1179 rfl rfl ?_
  refine z_bnd h (fun q199 hq199 h => ?_)
  refine x_callV1 rfl (w_X11_quiet hq199) cw_X11_quiet q_763 ⟨by decide, by decide⟩ (Nat.le_of_ble_eq_true rfl) dL_law_1180 rfl ?_
  refine x_aload_n 2 dL_law_1183 rfl rfl ?_
  refine z_bnd h (fun q200 hq200 h => ?_)
  refine x_callV1 rfl (w_X12_quiet hq200) cw_X12_quiet q_1385 ⟨by decide, by decide⟩ (Nat.le_of_ble_eq_true rfl) dL_law_1184 rfl ?_
  refine x_ic_eq (tgt := 1901) dL_law_1187 (by decide) h (fun h => ?_) (fun h => ?_)
  · refine x_iinc (v := (x3 + 10)) (lo' := [(3, z_i (x3 + 10)), (0, z_r 99 (some 0)), (1, z_r 11 (some n1)), (2, z_r 12 (some n2))]) 3 dL_law_1901 rfl (congrArg (HAdd.hAdd x3) (by decide)) (by decide) rfl ?_
    refine x_goto (tgt := 18) dL_law_1904 (by decide) ?_
    cases h
    exact x_lo [1, 2, 3, 0] rfl k
  · cases h
set_option maxRecDepth 20000 in
theorem k_L_law_1192 {L : Nat} {xs : Nat → Int32} {n1 : Nat} {n2 : Nat} {x3 : Int32}   {S : ZH} {z : (Int32 × ZH) ⊕ (ZH)} (h : j_L_law_1192 L xs n1 n2 x3 S = some z) (k : Sum.elim (fun v : Int32 × ZH => Wp Y_L_law zE (z_FL L xs) 18 [(0, z_r 99 (some 0)), (1, z_r 11 (some n1)), (2, z_r 12 (some n2)), (3, z_i v.1)] [] v.2) (fun t => Wp Y_L_law zE (z_FL L xs) 1907 [] [] t) z) : Wp Y_L_law zE (z_FL L xs) 1192 [(0, z_r 99 (some 0)), (1, z_r 11 (some n1)), (2, z_r 12 (some n2)), (3, z_i x3)] [] S := by
  unfold j_L_law_1192 at h
  refine x_aload_n 1 dL_law_1192 rfl rfl ?_
  refine x_aload_n 0 dL_law_1193 rfl rfl ?_
  refine x_iload_n 3 dL_law_1194 rfl rfl ?_
  refine x_iconst (v := (1 : Int32)) dL_law_1195 (by decide) ?_
  refine x_iadd dL_law_1196 ?_
  refine x_sld dL_law_1197 h (fun v202 hv202 h => ?_)
  refine z_bnd h (fun q203 hq203 h => ?_)
  refine x_callV1 rfl (w_X11_heard hq203) cw_X11_heard q_775 ⟨by decide, by decide⟩ (Nat.le_of_ble_eq_true rfl) dL_law_1198 rfl ?_
  refine x_aload_n 2 dL_law_1201 rfl rfl ?_
  refine x_aload_n 0 dL_law_1202 rfl rfl ?_
  refine x_iload_n 3 dL_law_1203 rfl rfl ?_
  refine x_iconst (v := (1 : Int32)) dL_law_1204 (by decide) ?_
  refine x_iadd dL_law_1205 ?_
  refine x_sld dL_law_1206 h (fun v204 hv204 h => ?_)
  refine z_bnd h (fun q205 hq205 h => ?_)
  refine x_callV1 rfl (w_X12_heard hq205) cw_X12_heard q_1389 ⟨by decide, by decide⟩ (Nat.le_of_ble_eq_true rfl) dL_law_1207 rfl ?_
  refine x_ic_eq (tgt := 1901) dL_law_1210 (by decide) h (fun h => ?_) (fun h => ?_)
  · refine x_iinc (v := (x3 + 10)) (lo' := [(3, z_i (x3 + 10)), (0, z_r 99 (some 0)), (1, z_r 11 (some n1)), (2, z_r 12 (some n2))]) 3 dL_law_1901 rfl (congrArg (HAdd.hAdd x3) (by decide)) (by decide) rfl ?_
    refine x_goto (tgt := 18) dL_law_1904 (by decide) ?_
    cases h
    exact x_lo [1, 2, 3, 0] rfl k
  · cases h
set_option maxRecDepth 20000 in
theorem k_L_law_1215 {L : Nat} {xs : Nat → Int32} {n1 : Nat} {n2 : Nat} {x3 : Int32}   {S : ZH} {z : (Int32 × ZH) ⊕ (ZH)} (h : j_L_law_1215 L xs n1 n2 x3 S = some z) (k : Sum.elim (fun v : Int32 × ZH => Wp Y_L_law zE (z_FL L xs) 18 [(0, z_r 99 (some 0)), (1, z_r 11 (some n1)), (2, z_r 12 (some n2)), (3, z_i v.1)] [] v.2) (fun t => Wp Y_L_law zE (z_FL L xs) 1907 [] [] t) z) : Wp Y_L_law zE (z_FL L xs) 1215 [(0, z_r 99 (some 0)), (1, z_r 11 (some n1)), (2, z_r 12 (some n2)), (3, z_i x3)] [] S := by
  unfold j_L_law_1215 at h
  refine x_aload_n 1 dL_law_1215 rfl rfl ?_
  refine x_aload_n 0 dL_law_1216 rfl rfl ?_
  refine x_iload_n 3 dL_law_1217 rfl rfl ?_
  refine x_iconst (v := (1 : Int32)) dL_law_1218 (by decide) ?_
  refine x_iadd dL_law_1219 ?_
  refine x_sld dL_law_1220 h (fun v207 hv207 h => ?_)
  refine x_aload_n 0 dL_law_1221 rfl rfl ?_
  refine x_iload_n 3 dL_law_1222 rfl rfl ?_
  refine x_iconst (v := (2 : Int32)) dL_law_1223 (by decide) ?_
  refine x_iadd dL_law_1224 ?_
  refine x_sld dL_law_1225 h (fun v208 hv208 h => ?_)
  refine z_bnd h (fun q209 hq209 h => ?_)
  refine x_callV1 rfl (w_X11_tender hq209) cw_X11_tender q_779 ⟨by decide, by decide⟩ (Nat.le_of_ble_eq_true rfl) dL_law_1226 rfl ?_
  refine x_aload_n 2 dL_law_1229 rfl rfl ?_
  refine x_aload_n 0 dL_law_1230 rfl rfl ?_
  refine x_iload_n 3 dL_law_1231 rfl rfl ?_
  refine x_iconst (v := (1 : Int32)) dL_law_1232 (by decide) ?_
  refine x_iadd dL_law_1233 ?_
  refine x_sld dL_law_1234 h (fun v210 hv210 h => ?_)
  refine x_aload_n 0 dL_law_1235 rfl rfl ?_
  refine x_iload_n 3 dL_law_1236 rfl rfl ?_
  refine x_iconst (v := (2 : Int32)) dL_law_1237 (by decide) ?_
  refine x_iadd dL_law_1238 ?_
  refine x_sld dL_law_1239 h (fun v211 hv211 h => ?_)
  refine z_bnd h (fun q212 hq212 h => ?_)
  refine x_callV1 rfl (w_X12_tender hq212) cw_X12_tender q_1393 ⟨by decide, by decide⟩ (Nat.le_of_ble_eq_true rfl) dL_law_1240 rfl ?_
  refine x_ic_eq (tgt := 1901) dL_law_1243 (by decide) h (fun h => ?_) (fun h => ?_)
  · refine x_iinc (v := (x3 + 10)) (lo' := [(3, z_i (x3 + 10)), (0, z_r 99 (some 0)), (1, z_r 11 (some n1)), (2, z_r 12 (some n2))]) 3 dL_law_1901 rfl (congrArg (HAdd.hAdd x3) (by decide)) (by decide) rfl ?_
    refine x_goto (tgt := 18) dL_law_1904 (by decide) ?_
    cases h
    exact x_lo [1, 2, 3, 0] rfl k
  · cases h
set_option maxRecDepth 20000 in
theorem k_L_law_1248 {L : Nat} {xs : Nat → Int32} {n1 : Nat} {n2 : Nat} {x3 : Int32}   {S : ZH} {z : (Int32 × ZH) ⊕ (ZH)} (h : j_L_law_1248 L xs n1 n2 x3 S = some z) (k : Sum.elim (fun v : Int32 × ZH => Wp Y_L_law zE (z_FL L xs) 18 [(0, z_r 99 (some 0)), (1, z_r 11 (some n1)), (2, z_r 12 (some n2)), (3, z_i v.1)] [] v.2) (fun t => Wp Y_L_law zE (z_FL L xs) 1907 [] [] t) z) : Wp Y_L_law zE (z_FL L xs) 1248 [(0, z_r 99 (some 0)), (1, z_r 11 (some n1)), (2, z_r 12 (some n2)), (3, z_i x3)] [] S := by
  unfold j_L_law_1248 at h
  refine x_aload_n 1 dL_law_1248 rfl rfl ?_
  refine x_aload_n 0 dL_law_1249 rfl rfl ?_
  refine x_iload_n 3 dL_law_1250 rfl rfl ?_
  refine x_iconst (v := (1 : Int32)) dL_law_1251 (by decide) ?_
  refine x_iadd dL_law_1252 ?_
  refine x_sld dL_law_1253 h (fun v214 hv214 h => ?_)
  refine x_aload_n 0 dL_law_1254 rfl rfl ?_
  refine x_iload_n 3 dL_law_1255 rfl rfl ?_
  refine x_iconst (v := (2 : Int32)) dL_law_1256 (by decide) ?_
  refine x_iadd dL_law_1257 ?_
  refine x_sld dL_law_1258 h (fun v215 hv215 h => ?_)
  refine z_bnd h (fun q216 hq216 h => ?_)
  refine x_callV1 rfl (w_X11_met hq216) cw_X11_met q_783 ⟨by decide, by decide⟩ (Nat.le_of_ble_eq_true rfl) dL_law_1259 rfl ?_
  refine x_aload_n 2 dL_law_1262 rfl rfl ?_
  refine x_aload_n 0 dL_law_1263 rfl rfl ?_
  refine x_iload_n 3 dL_law_1264 rfl rfl ?_
  refine x_iconst (v := (1 : Int32)) dL_law_1265 (by decide) ?_
  refine x_iadd dL_law_1266 ?_
  refine x_sld dL_law_1267 h (fun v217 hv217 h => ?_)
  refine x_aload_n 0 dL_law_1268 rfl rfl ?_
  refine x_iload_n 3 dL_law_1269 rfl rfl ?_
  refine x_iconst (v := (2 : Int32)) dL_law_1270 (by decide) ?_
  refine x_iadd dL_law_1271 ?_
  refine x_sld dL_law_1272 h (fun v218 hv218 h => ?_)
  refine z_bnd h (fun q219 hq219 h => ?_)
  refine x_callV1 rfl (w_X12_met hq219) cw_X12_met q_1398 ⟨by decide, by decide⟩ (Nat.le_of_ble_eq_true rfl) dL_law_1273 rfl ?_
  refine x_ic_eq (tgt := 1901) dL_law_1276 (by decide) h (fun h => ?_) (fun h => ?_)
  · refine x_iinc (v := (x3 + 10)) (lo' := [(3, z_i (x3 + 10)), (0, z_r 99 (some 0)), (1, z_r 11 (some n1)), (2, z_r 12 (some n2))]) 3 dL_law_1901 rfl (congrArg (HAdd.hAdd x3) (by decide)) (by decide) rfl ?_
    refine x_goto (tgt := 18) dL_law_1904 (by decide) ?_
    cases h
    exact x_lo [1, 2, 3, 0] rfl k
  · cases h
set_option maxRecDepth 20000 in
theorem k_L_law_1281 {L : Nat} {xs : Nat → Int32} {n1 : Nat} {n2 : Nat} {x3 : Int32}   {S : ZH} {z : (Int32 × ZH) ⊕ (ZH)} (h : j_L_law_1281 L xs n1 n2 x3 S = some z) (k : Sum.elim (fun v : Int32 × ZH => Wp Y_L_law zE (z_FL L xs) 18 [(0, z_r 99 (some 0)), (1, z_r 11 (some n1)), (2, z_r 12 (some n2)), (3, z_i v.1)] [] v.2) (fun t => Wp Y_L_law zE (z_FL L xs) 1907 [] [] t) z) : Wp Y_L_law zE (z_FL L xs) 1281 [(0, z_r 99 (some 0)), (1, z_r 11 (some n1)), (2, z_r 12 (some n2)), (3, z_i x3)] [] S := by
  unfold j_L_law_1281 at h
  refine x_aload_n 1 dL_law_1281 rfl rfl ?_
  refine x_aload_n 0 dL_law_1282 rfl rfl ?_
  refine x_iload_n 3 dL_law_1283 rfl rfl ?_
  refine x_iconst (v := (1 : Int32)) dL_law_1284 (by decide) ?_
  refine x_iadd dL_law_1285 ?_
  refine x_sld dL_law_1286 h (fun v221 hv221 h => ?_)
  refine x_aload_n 0 dL_law_1287 rfl rfl ?_
  refine x_iload_n 3 dL_law_1288 rfl rfl ?_
  refine x_iconst (v := (2 : Int32)) dL_law_1289 (by decide) ?_
  refine x_iadd dL_law_1290 ?_
  refine x_sld dL_law_1291 h (fun v222 hv222 h => ?_)
  refine x_aload_n 0 dL_law_1292 rfl rfl ?_
  refine x_iload_n 3 dL_law_1293 rfl rfl ?_
  refine x_iconst (v := (3 : Int32)) dL_law_1294 (by decide) ?_
  refine x_iadd dL_law_1295 ?_
  refine x_sld dL_law_1296 h (fun v223 hv223 h => ?_)
  refine x_aload_n 0 dL_law_1297 rfl rfl ?_
  refine x_iload_n 3 dL_law_1298 rfl rfl ?_
  refine x_iconst (v := (4 : Int32)) dL_law_1299 (by decide) ?_
  refine x_iadd dL_law_1300 ?_
  refine x_sld dL_law_1301 h (fun v224 hv224 h => ?_)
  refine z_bnd h (fun q225 hq225 h => ?_)
  refine x_callV1 rfl (w_X11_laid hq225) cw_X11_laid q_805 ⟨by decide, by decide⟩ (Nat.le_of_ble_eq_true rfl) dL_law_1302 rfl ?_
  refine x_aload_n 2 dL_law_1305 rfl rfl ?_
  refine x_aload_n 0 dL_law_1306 rfl rfl ?_
  refine x_iload_n 3 dL_law_1307 rfl rfl ?_
  refine x_iconst (v := (1 : Int32)) dL_law_1308 (by decide) ?_
  refine x_iadd dL_law_1309 ?_
  refine x_sld dL_law_1310 h (fun v226 hv226 h => ?_)
  refine x_aload_n 0 dL_law_1311 rfl rfl ?_
  refine x_iload_n 3 dL_law_1312 rfl rfl ?_
  refine x_iconst (v := (2 : Int32)) dL_law_1313 (by decide) ?_
  refine x_iadd dL_law_1314 ?_
  refine x_sld dL_law_1315 h (fun v227 hv227 h => ?_)
  refine x_aload_n 0 dL_law_1316 rfl rfl ?_
  refine x_iload_n 3 dL_law_1317 rfl rfl ?_
  refine x_iconst (v := (3 : Int32)) dL_law_1318 (by decide) ?_
  refine x_iadd dL_law_1319 ?_
  refine x_sld dL_law_1320 h (fun v228 hv228 h => ?_)
  refine x_aload_n 0 dL_law_1321 rfl rfl ?_
  refine x_iload_n 3 dL_law_1322 rfl rfl ?_
  refine x_iconst (v := (4 : Int32)) dL_law_1323 (by decide) ?_
  refine x_iadd dL_law_1324 ?_
  refine x_sld dL_law_1325 h (fun v229 hv229 h => ?_)
  refine z_bnd h (fun q230 hq230 h => ?_)
  refine x_callV1 rfl (w_X12_laid hq230) cw_X12_laid q_1414 ⟨by decide, by decide⟩ (Nat.le_of_ble_eq_true rfl) dL_law_1326 rfl ?_
  refine x_ic_eq (tgt := 1901) dL_law_1329 (by decide) h (fun h => ?_) (fun h => ?_)
  · refine x_iinc (v := (x3 + 10)) (lo' := [(3, z_i (x3 + 10)), (0, z_r 99 (some 0)), (1, z_r 11 (some n1)), (2, z_r 12 (some n2))]) 3 dL_law_1901 rfl (congrArg (HAdd.hAdd x3) (by decide)) (by decide) rfl ?_
    refine x_goto (tgt := 18) dL_law_1904 (by decide) ?_
    cases h
    exact x_lo [1, 2, 3, 0] rfl k
  · cases h
set_option maxRecDepth 20000 in
theorem k_L_law_1334 {L : Nat} {xs : Nat → Int32} {n1 : Nat} {n2 : Nat} {x3 : Int32}   {S : ZH} {z : (Int32 × ZH) ⊕ (ZH)} (h : j_L_law_1334 L xs n1 n2 x3 S = some z) (k : Sum.elim (fun v : Int32 × ZH => Wp Y_L_law zE (z_FL L xs) 18 [(0, z_r 99 (some 0)), (1, z_r 11 (some n1)), (2, z_r 12 (some n2)), (3, z_i v.1)] [] v.2) (fun t => Wp Y_L_law zE (z_FL L xs) 1907 [] [] t) z) : Wp Y_L_law zE (z_FL L xs) 1334 [(0, z_r 99 (some 0)), (1, z_r 11 (some n1)), (2, z_r 12 (some n2)), (3, z_i x3)] [] S := by
  unfold j_L_law_1334 at h
  refine x_aload_n 1 dL_law_1334 rfl rfl ?_
  refine x_aload_n 0 dL_law_1335 rfl rfl ?_
  refine x_iload_n 3 dL_law_1336 rfl rfl ?_
  refine x_iconst (v := (1 : Int32)) dL_law_1337 (by decide) ?_
  refine x_iadd dL_law_1338 ?_
  refine x_sld dL_law_1339 h (fun v232 hv232 h => ?_)
  refine x_aload_n 0 dL_law_1340 rfl rfl ?_
  refine x_iload_n 3 dL_law_1341 rfl rfl ?_
  refine x_iconst (v := (2 : Int32)) dL_law_1342 (by decide) ?_
  refine x_iadd dL_law_1343 ?_
  refine x_sld dL_law_1344 h (fun v233 hv233 h => ?_)
  refine x_aload_n 0 dL_law_1345 rfl rfl ?_
  refine x_iload_n 3 dL_law_1346 rfl rfl ?_
  refine x_iconst (v := (3 : Int32)) dL_law_1347 (by decide) ?_
  refine x_iadd dL_law_1348 ?_
  refine x_sld dL_law_1349 h (fun v234 hv234 h => ?_)
  refine x_aload_n 0 dL_law_1350 rfl rfl ?_
  refine x_iload_n 3 dL_law_1351 rfl rfl ?_
  refine x_iconst (v := (4 : Int32)) dL_law_1352 (by decide) ?_
  refine x_iadd dL_law_1353 ?_
  refine x_sld dL_law_1354 h (fun v235 hv235 h => ?_)
  refine z_bnd h (fun q236 hq236 h => ?_)
  refine x_callV1 rfl (w_X11_ship hq236) cw_X11_ship q_850 ⟨by decide, by decide⟩ (Nat.le_of_ble_eq_true rfl) dL_law_1355 rfl ?_
  refine x_aload_n 2 dL_law_1358 rfl rfl ?_
  refine x_aload_n 0 dL_law_1359 rfl rfl ?_
  refine x_iload_n 3 dL_law_1360 rfl rfl ?_
  refine x_iconst (v := (1 : Int32)) dL_law_1361 (by decide) ?_
  refine x_iadd dL_law_1362 ?_
  refine x_sld dL_law_1363 h (fun v237 hv237 h => ?_)
  refine x_aload_n 0 dL_law_1364 rfl rfl ?_
  refine x_iload_n 3 dL_law_1365 rfl rfl ?_
  refine x_iconst (v := (2 : Int32)) dL_law_1366 (by decide) ?_
  refine x_iadd dL_law_1367 ?_
  refine x_sld dL_law_1368 h (fun v238 hv238 h => ?_)
  refine x_aload_n 0 dL_law_1369 rfl rfl ?_
  refine x_iload_n 3 dL_law_1370 rfl rfl ?_
  refine x_iconst (v := (3 : Int32)) dL_law_1371 (by decide) ?_
  refine x_iadd dL_law_1372 ?_
  refine x_sld dL_law_1373 h (fun v239 hv239 h => ?_)
  refine x_aload_n 0 dL_law_1374 rfl rfl ?_
  refine x_iload_n 3 dL_law_1375 rfl rfl ?_
  refine x_iconst (v := (4 : Int32)) dL_law_1376 (by decide) ?_
  refine x_iadd dL_law_1377 ?_
  refine x_sld dL_law_1378 h (fun v240 hv240 h => ?_)
  refine z_bnd h (fun q241 hq241 h => ?_)
  refine x_callV1 rfl (w_X12_ship hq241) cw_X12_ship q_1418 ⟨by decide, by decide⟩ (Nat.le_of_ble_eq_true rfl) dL_law_1379 rfl ?_
  refine x_ic_eq (tgt := 1901) dL_law_1382 (by decide) h (fun h => ?_) (fun h => ?_)
  · refine x_iinc (v := (x3 + 10)) (lo' := [(3, z_i (x3 + 10)), (0, z_r 99 (some 0)), (1, z_r 11 (some n1)), (2, z_r 12 (some n2))]) 3 dL_law_1901 rfl (congrArg (HAdd.hAdd x3) (by decide)) (by decide) rfl ?_
    refine x_goto (tgt := 18) dL_law_1904 (by decide) ?_
    cases h
    exact x_lo [1, 2, 3, 0] rfl k
  · cases h
set_option maxRecDepth 20000 in
theorem k_L_law_1387 {L : Nat} {xs : Nat → Int32} {n1 : Nat} {n2 : Nat} {x3 : Int32}   {S : ZH} {z : (Int32 × ZH) ⊕ (ZH)} (h : j_L_law_1387 L xs n1 n2 x3 S = some z) (k : Sum.elim (fun v : Int32 × ZH => Wp Y_L_law zE (z_FL L xs) 18 [(0, z_r 99 (some 0)), (1, z_r 11 (some n1)), (2, z_r 12 (some n2)), (3, z_i v.1)] [] v.2) (fun t => Wp Y_L_law zE (z_FL L xs) 1907 [] [] t) z) : Wp Y_L_law zE (z_FL L xs) 1387 [(0, z_r 99 (some 0)), (1, z_r 11 (some n1)), (2, z_r 12 (some n2)), (3, z_i x3)] [] S := by
  unfold j_L_law_1387 at h
  refine x_aload_n 1 dL_law_1387 rfl rfl ?_
  refine x_aload_n 0 dL_law_1388 rfl rfl ?_
  refine x_iload_n 3 dL_law_1389 rfl rfl ?_
  refine x_iconst (v := (1 : Int32)) dL_law_1390 (by decide) ?_
  refine x_iadd dL_law_1391 ?_
  refine x_sld dL_law_1392 h (fun v243 hv243 h => ?_)
  refine x_aload_n 0 dL_law_1393 rfl rfl ?_
  refine x_iload_n 3 dL_law_1394 rfl rfl ?_
  refine x_iconst (v := (2 : Int32)) dL_law_1395 (by decide) ?_
  refine x_iadd dL_law_1396 ?_
  refine x_sld dL_law_1397 h (fun v244 hv244 h => ?_)
  refine z_bnd h (fun q245 hq245 h => ?_)
  refine x_callV1 rfl (w_X11_of hq245) cw_X11_of q_880 ⟨by decide, by decide⟩ (Nat.le_of_ble_eq_true rfl) dL_law_1398 rfl ?_
  refine x_aload_n 2 dL_law_1401 rfl rfl ?_
  refine x_aload_n 0 dL_law_1402 rfl rfl ?_
  refine x_iload_n 3 dL_law_1403 rfl rfl ?_
  refine x_iconst (v := (1 : Int32)) dL_law_1404 (by decide) ?_
  refine x_iadd dL_law_1405 ?_
  refine x_sld dL_law_1406 h (fun v246 hv246 h => ?_)
  refine x_aload_n 0 dL_law_1407 rfl rfl ?_
  refine x_iload_n 3 dL_law_1408 rfl rfl ?_
  refine x_iconst (v := (2 : Int32)) dL_law_1409 (by decide) ?_
  refine x_iadd dL_law_1410 ?_
  refine x_sld dL_law_1411 h (fun v247 hv247 h => ?_)
  refine z_bnd h (fun q248 hq248 h => ?_)
  refine x_callV1 rfl (w_X12_of hq248) cw_X12_of q_1422 ⟨by decide, by decide⟩ (Nat.le_of_ble_eq_true rfl) dL_law_1412 rfl ?_
  refine x_ic_eq (tgt := 1901) dL_law_1415 (by decide) h (fun h => ?_) (fun h => ?_)
  · refine x_iinc (v := (x3 + 10)) (lo' := [(3, z_i (x3 + 10)), (0, z_r 99 (some 0)), (1, z_r 11 (some n1)), (2, z_r 12 (some n2))]) 3 dL_law_1901 rfl (congrArg (HAdd.hAdd x3) (by decide)) (by decide) rfl ?_
    refine x_goto (tgt := 18) dL_law_1904 (by decide) ?_
    cases h
    exact x_lo [1, 2, 3, 0] rfl k
  · cases h
set_option maxRecDepth 20000 in
theorem k_L_law_1420 {L : Nat} {xs : Nat → Int32} {n1 : Nat} {n2 : Nat} {x3 : Int32}   {S : ZH} {z : (Int32 × ZH) ⊕ (ZH)} (h : j_L_law_1420 L xs n1 n2 x3 S = some z) (k : Sum.elim (fun v : Int32 × ZH => Wp Y_L_law zE (z_FL L xs) 18 [(0, z_r 99 (some 0)), (1, z_r 11 (some n1)), (2, z_r 12 (some n2)), (3, z_i v.1)] [] v.2) (fun t => Wp Y_L_law zE (z_FL L xs) 1907 [] [] t) z) : Wp Y_L_law zE (z_FL L xs) 1420 [(0, z_r 99 (some 0)), (1, z_r 11 (some n1)), (2, z_r 12 (some n2)), (3, z_i x3)] [] S := by
  unfold j_L_law_1420 at h
  refine x_aload_n 1 dL_law_1420 rfl rfl ?_
  refine x_aload_n 0 dL_law_1421 rfl rfl ?_
  refine x_iload_n 3 dL_law_1422 rfl rfl ?_
  refine x_iconst (v := (1 : Int32)) dL_law_1423 (by decide) ?_
  refine x_iadd dL_law_1424 ?_
  refine x_sld dL_law_1425 h (fun v250 hv250 h => ?_)
  refine x_aload_n 0 dL_law_1426 rfl rfl ?_
  refine x_iload_n 3 dL_law_1427 rfl rfl ?_
  refine x_iconst (v := (2 : Int32)) dL_law_1428 (by decide) ?_
  refine x_iadd dL_law_1429 ?_
  refine x_sld dL_law_1430 h (fun v251 hv251 h => ?_)
  refine z_bnd h (fun q252 hq252 h => ?_)
  refine x_callV1 rfl (w_X11_spare hq252) cw_X11_spare q_892 ⟨by decide, by decide⟩ (Nat.le_of_ble_eq_true rfl) dL_law_1431 rfl ?_
  refine x_aload_n 2 dL_law_1434 rfl rfl ?_
  refine x_aload_n 0 dL_law_1435 rfl rfl ?_
  refine x_iload_n 3 dL_law_1436 rfl rfl ?_
  refine x_iconst (v := (1 : Int32)) dL_law_1437 (by decide) ?_
  refine x_iadd dL_law_1438 ?_
  refine x_sld dL_law_1439 h (fun v253 hv253 h => ?_)
  refine x_aload_n 0 dL_law_1440 rfl rfl ?_
  refine x_iload_n 3 dL_law_1441 rfl rfl ?_
  refine x_iconst (v := (2 : Int32)) dL_law_1442 (by decide) ?_
  refine x_iadd dL_law_1443 ?_
  refine x_sld dL_law_1444 h (fun v254 hv254 h => ?_)
  refine z_bnd h (fun q255 hq255 h => ?_)
  refine x_callV1 rfl (w_X12_spare hq255) cw_X12_spare q_1434 ⟨by decide, by decide⟩ (Nat.le_of_ble_eq_true rfl) dL_law_1445 rfl ?_
  refine x_ic_eq (tgt := 1901) dL_law_1448 (by decide) h (fun h => ?_) (fun h => ?_)
  · refine x_iinc (v := (x3 + 10)) (lo' := [(3, z_i (x3 + 10)), (0, z_r 99 (some 0)), (1, z_r 11 (some n1)), (2, z_r 12 (some n2))]) 3 dL_law_1901 rfl (congrArg (HAdd.hAdd x3) (by decide)) (by decide) rfl ?_
    refine x_goto (tgt := 18) dL_law_1904 (by decide) ?_
    cases h
    exact x_lo [1, 2, 3, 0] rfl k
  · cases h
set_option maxRecDepth 20000 in
theorem k_L_law_1453 {L : Nat} {xs : Nat → Int32} {n1 : Nat} {n2 : Nat} {x3 : Int32}   {S : ZH} {z : (Int32 × ZH) ⊕ (ZH)} (h : j_L_law_1453 L xs n1 n2 x3 S = some z) (k : Sum.elim (fun v : Int32 × ZH => Wp Y_L_law zE (z_FL L xs) 18 [(0, z_r 99 (some 0)), (1, z_r 11 (some n1)), (2, z_r 12 (some n2)), (3, z_i v.1)] [] v.2) (fun t => Wp Y_L_law zE (z_FL L xs) 1907 [] [] t) z) : Wp Y_L_law zE (z_FL L xs) 1453 [(0, z_r 99 (some 0)), (1, z_r 11 (some n1)), (2, z_r 12 (some n2)), (3, z_i x3)] [] S := by
  unfold j_L_law_1453 at h
  refine x_aload_n 1 dL_law_1453 rfl rfl ?_
  refine x_aload_n 0 dL_law_1454 rfl rfl ?_
  refine x_iload_n 3 dL_law_1455 rfl rfl ?_
  refine x_iconst (v := (1 : Int32)) dL_law_1456 (by decide) ?_
  refine x_iadd dL_law_1457 ?_
  refine x_sld dL_law_1458 h (fun v257 hv257 h => ?_)
  refine x_aload_n 0 dL_law_1459 rfl rfl ?_
  refine x_iload_n 3 dL_law_1460 rfl rfl ?_
  refine x_iconst (v := (2 : Int32)) dL_law_1461 (by decide) ?_
  refine x_iadd dL_law_1462 ?_
  refine x_sld dL_law_1463 h (fun v258 hv258 h => ?_)
  refine z_bnd h (fun q259 hq259 h => ?_)
  refine x_callV1 rfl (w_X11_board hq259) cw_X11_board q_902 ⟨by decide, by decide⟩ (Nat.le_of_ble_eq_true rfl) dL_law_1464 rfl ?_
  refine x_aload_n 2 dL_law_1467 rfl rfl ?_
  refine x_aload_n 0 dL_law_1468 rfl rfl ?_
  refine x_iload_n 3 dL_law_1469 rfl rfl ?_
  refine x_iconst (v := (1 : Int32)) dL_law_1470 (by decide) ?_
  refine x_iadd dL_law_1471 ?_
  refine x_sld dL_law_1472 h (fun v260 hv260 h => ?_)
  refine x_aload_n 0 dL_law_1473 rfl rfl ?_
  refine x_iload_n 3 dL_law_1474 rfl rfl ?_
  refine x_iconst (v := (2 : Int32)) dL_law_1475 (by decide) ?_
  refine x_iadd dL_law_1476 ?_
  refine x_sld dL_law_1477 h (fun v261 hv261 h => ?_)
  refine z_bnd h (fun q262 hq262 h => ?_)
  refine x_callV1 rfl (w_X12_board hq262) cw_X12_board q_1445 ⟨by decide, by decide⟩ (Nat.le_of_ble_eq_true rfl) dL_law_1478 rfl ?_
  refine x_ic_eq (tgt := 1901) dL_law_1481 (by decide) h (fun h => ?_) (fun h => ?_)
  · refine x_iinc (v := (x3 + 10)) (lo' := [(3, z_i (x3 + 10)), (0, z_r 99 (some 0)), (1, z_r 11 (some n1)), (2, z_r 12 (some n2))]) 3 dL_law_1901 rfl (congrArg (HAdd.hAdd x3) (by decide)) (by decide) rfl ?_
    refine x_goto (tgt := 18) dL_law_1904 (by decide) ?_
    cases h
    exact x_lo [1, 2, 3, 0] rfl k
  · cases h
set_option maxRecDepth 20000 in
theorem k_L_law_1486 {L : Nat} {xs : Nat → Int32} {n1 : Nat} {n2 : Nat} {x3 : Int32}   {S : ZH} {z : (Int32 × ZH) ⊕ (ZH)} (h : j_L_law_1486 L xs n1 n2 x3 S = some z) (k : Sum.elim (fun v : Int32 × ZH => Wp Y_L_law zE (z_FL L xs) 18 [(0, z_r 99 (some 0)), (1, z_r 11 (some n1)), (2, z_r 12 (some n2)), (3, z_i v.1)] [] v.2) (fun t => Wp Y_L_law zE (z_FL L xs) 1907 [] [] t) z) : Wp Y_L_law zE (z_FL L xs) 1486 [(0, z_r 99 (some 0)), (1, z_r 11 (some n1)), (2, z_r 12 (some n2)), (3, z_i x3)] [] S := by
  unfold j_L_law_1486 at h
  refine x_aload_n 1 dL_law_1486 rfl rfl ?_
  refine x_aload_n 0 dL_law_1487 rfl rfl ?_
  refine x_iload_n 3 dL_law_1488 rfl rfl ?_
  refine x_iconst (v := (1 : Int32)) dL_law_1489 (by decide) ?_
  refine x_iadd dL_law_1490 ?_
  refine x_sld dL_law_1491 h (fun v264 hv264 h => ?_)
  refine x_aload_n 0 dL_law_1492 rfl rfl ?_
  refine x_iload_n 3 dL_law_1493 rfl rfl ?_
  refine x_iconst (v := (2 : Int32)) dL_law_1494 (by decide) ?_
  refine x_iadd dL_law_1495 ?_
  refine x_sld dL_law_1496 h (fun v265 hv265 h => ?_)
  refine z_bnd h (fun q266 hq266 h => ?_)
  refine x_callV1 rfl (w_X11_turn hq266) cw_X11_turn q_906 ⟨by decide, by decide⟩ (Nat.le_of_ble_eq_true rfl) dL_law_1497 rfl ?_
  refine x_aload_n 2 dL_law_1500 rfl rfl ?_
  refine x_aload_n 0 dL_law_1501 rfl rfl ?_
  refine x_iload_n 3 dL_law_1502 rfl rfl ?_
  refine x_iconst (v := (1 : Int32)) dL_law_1503 (by decide) ?_
  refine x_iadd dL_law_1504 ?_
  refine x_sld dL_law_1505 h (fun v267 hv267 h => ?_)
  refine x_aload_n 0 dL_law_1506 rfl rfl ?_
  refine x_iload_n 3 dL_law_1507 rfl rfl ?_
  refine x_iconst (v := (2 : Int32)) dL_law_1508 (by decide) ?_
  refine x_iadd dL_law_1509 ?_
  refine x_sld dL_law_1510 h (fun v268 hv268 h => ?_)
  refine z_bnd h (fun q269 hq269 h => ?_)
  refine x_callV1 rfl (w_X12_turn hq269) cw_X12_turn q_1449 ⟨by decide, by decide⟩ (Nat.le_of_ble_eq_true rfl) dL_law_1511 rfl ?_
  refine x_ic_eq (tgt := 1901) dL_law_1514 (by decide) h (fun h => ?_) (fun h => ?_)
  · refine x_iinc (v := (x3 + 10)) (lo' := [(3, z_i (x3 + 10)), (0, z_r 99 (some 0)), (1, z_r 11 (some n1)), (2, z_r 12 (some n2))]) 3 dL_law_1901 rfl (congrArg (HAdd.hAdd x3) (by decide)) (by decide) rfl ?_
    refine x_goto (tgt := 18) dL_law_1904 (by decide) ?_
    cases h
    exact x_lo [1, 2, 3, 0] rfl k
  · cases h
set_option maxRecDepth 20000 in
theorem k_L_law_1519 {L : Nat} {xs : Nat → Int32} {n1 : Nat} {n2 : Nat} {x3 : Int32}   {S : ZH} {z : (Int32 × ZH) ⊕ (ZH)} (h : j_L_law_1519 L xs n1 n2 x3 S = some z) (k : Sum.elim (fun v : Int32 × ZH => Wp Y_L_law zE (z_FL L xs) 18 [(0, z_r 99 (some 0)), (1, z_r 11 (some n1)), (2, z_r 12 (some n2)), (3, z_i v.1)] [] v.2) (fun t => Wp Y_L_law zE (z_FL L xs) 1907 [] [] t) z) : Wp Y_L_law zE (z_FL L xs) 1519 [(0, z_r 99 (some 0)), (1, z_r 11 (some n1)), (2, z_r 12 (some n2)), (3, z_i x3)] [] S := by
  unfold j_L_law_1519 at h
  refine x_aload_n 1 dL_law_1519 rfl rfl ?_
  refine x_aload_n 0 dL_law_1520 rfl rfl ?_
  refine x_iload_n 3 dL_law_1521 rfl rfl ?_
  refine x_iconst (v := (1 : Int32)) dL_law_1522 (by decide) ?_
  refine x_iadd dL_law_1523 ?_
  refine x_sld dL_law_1524 h (fun v271 hv271 h => ?_)
  refine x_aload_n 0 dL_law_1525 rfl rfl ?_
  refine x_iload_n 3 dL_law_1526 rfl rfl ?_
  refine x_iconst (v := (2 : Int32)) dL_law_1527 (by decide) ?_
  refine x_iadd dL_law_1528 ?_
  refine x_sld dL_law_1529 h (fun v272 hv272 h => ?_)
  refine z_bnd h (fun q273 hq273 h => ?_)
  refine x_callV1 rfl (w_X11_notAshore hq273) cw_X11_notAshore q_910 ⟨by decide, by decide⟩ (Nat.le_of_ble_eq_true rfl) dL_law_1530 rfl ?_
  refine x_aload_n 2 dL_law_1533 rfl rfl ?_
  refine x_aload_n 0 dL_law_1534 rfl rfl ?_
  refine x_iload_n 3 dL_law_1535 rfl rfl ?_
  refine x_iconst (v := (1 : Int32)) dL_law_1536 (by decide) ?_
  refine x_iadd dL_law_1537 ?_
  refine x_sld dL_law_1538 h (fun v274 hv274 h => ?_)
  refine x_aload_n 0 dL_law_1539 rfl rfl ?_
  refine x_iload_n 3 dL_law_1540 rfl rfl ?_
  refine x_iconst (v := (2 : Int32)) dL_law_1541 (by decide) ?_
  refine x_iadd dL_law_1542 ?_
  refine x_sld dL_law_1543 h (fun v275 hv275 h => ?_)
  refine z_bnd h (fun q276 hq276 h => ?_)
  refine x_callV1 rfl (w_X12_notAshore hq276) cw_X12_notAshore q_1453 ⟨by decide, by decide⟩ (Nat.le_of_ble_eq_true rfl) dL_law_1544 rfl ?_
  refine x_ic_eq (tgt := 1901) dL_law_1547 (by decide) h (fun h => ?_) (fun h => ?_)
  · refine x_iinc (v := (x3 + 10)) (lo' := [(3, z_i (x3 + 10)), (0, z_r 99 (some 0)), (1, z_r 11 (some n1)), (2, z_r 12 (some n2))]) 3 dL_law_1901 rfl (congrArg (HAdd.hAdd x3) (by decide)) (by decide) rfl ?_
    refine x_goto (tgt := 18) dL_law_1904 (by decide) ?_
    cases h
    exact x_lo [1, 2, 3, 0] rfl k
  · cases h
set_option maxRecDepth 20000 in
theorem k_L_law_1552 {L : Nat} {xs : Nat → Int32} {n1 : Nat} {n2 : Nat} {x3 : Int32}   {S : ZH} {z : (Int32 × ZH) ⊕ (ZH)} (h : j_L_law_1552 L xs n1 n2 x3 S = some z) (k : Sum.elim (fun v : Int32 × ZH => Wp Y_L_law zE (z_FL L xs) 18 [(0, z_r 99 (some 0)), (1, z_r 11 (some n1)), (2, z_r 12 (some n2)), (3, z_i v.1)] [] v.2) (fun t => Wp Y_L_law zE (z_FL L xs) 1907 [] [] t) z) : Wp Y_L_law zE (z_FL L xs) 1552 [(0, z_r 99 (some 0)), (1, z_r 11 (some n1)), (2, z_r 12 (some n2)), (3, z_i x3)] [] S := by
  unfold j_L_law_1552 at h
  refine x_aload_n 1 dL_law_1552 rfl rfl ?_
  refine x_aload_n 0 dL_law_1553 rfl rfl ?_
  refine x_iload_n 3 dL_law_1554 rfl rfl ?_
  refine x_iconst (v := (1 : Int32)) dL_law_1555 (by decide) ?_
  refine x_iadd dL_law_1556 ?_
  refine x_sld dL_law_1557 h (fun v278 hv278 h => ?_)
  refine x_aload_n 0 dL_law_1558 rfl rfl ?_
  refine x_iload_n 3 dL_law_1559 rfl rfl ?_
  refine x_iconst (v := (2 : Int32)) dL_law_1560 (by decide) ?_
  refine x_iadd dL_law_1561 ?_
  refine x_sld dL_law_1562 h (fun v279 hv279 h => ?_)
  refine z_bnd h (fun q280 hq280 h => ?_)
  refine x_callV1 rfl (w_X11_taken hq280) cw_X11_taken q_919 ⟨by decide, by decide⟩ (Nat.le_of_ble_eq_true rfl) dL_law_1563 rfl ?_
  refine x_aload_n 2 dL_law_1566 rfl rfl ?_
  refine x_aload_n 0 dL_law_1567 rfl rfl ?_
  refine x_iload_n 3 dL_law_1568 rfl rfl ?_
  refine x_iconst (v := (1 : Int32)) dL_law_1569 (by decide) ?_
  refine x_iadd dL_law_1570 ?_
  refine x_sld dL_law_1571 h (fun v281 hv281 h => ?_)
  refine x_aload_n 0 dL_law_1572 rfl rfl ?_
  refine x_iload_n 3 dL_law_1573 rfl rfl ?_
  refine x_iconst (v := (2 : Int32)) dL_law_1574 (by decide) ?_
  refine x_iadd dL_law_1575 ?_
  refine x_sld dL_law_1576 h (fun v282 hv282 h => ?_)
  refine z_bnd h (fun q283 hq283 h => ?_)
  refine x_callV1 rfl (w_X12_taken hq283) cw_X12_taken q_1457 ⟨by decide, by decide⟩ (Nat.le_of_ble_eq_true rfl) dL_law_1577 rfl ?_
  refine x_ic_eq (tgt := 1901) dL_law_1580 (by decide) h (fun h => ?_) (fun h => ?_)
  · refine x_iinc (v := (x3 + 10)) (lo' := [(3, z_i (x3 + 10)), (0, z_r 99 (some 0)), (1, z_r 11 (some n1)), (2, z_r 12 (some n2))]) 3 dL_law_1901 rfl (congrArg (HAdd.hAdd x3) (by decide)) (by decide) rfl ?_
    refine x_goto (tgt := 18) dL_law_1904 (by decide) ?_
    cases h
    exact x_lo [1, 2, 3, 0] rfl k
  · cases h
set_option maxRecDepth 20000 in
theorem k_L_law_1585 {L : Nat} {xs : Nat → Int32} {n1 : Nat} {n2 : Nat} {x3 : Int32}   {S : ZH} {z : (Int32 × ZH) ⊕ (ZH)} (h : j_L_law_1585 L xs n1 n2 x3 S = some z) (k : Sum.elim (fun v : Int32 × ZH => Wp Y_L_law zE (z_FL L xs) 18 [(0, z_r 99 (some 0)), (1, z_r 11 (some n1)), (2, z_r 12 (some n2)), (3, z_i v.1)] [] v.2) (fun t => Wp Y_L_law zE (z_FL L xs) 1907 [] [] t) z) : Wp Y_L_law zE (z_FL L xs) 1585 [(0, z_r 99 (some 0)), (1, z_r 11 (some n1)), (2, z_r 12 (some n2)), (3, z_i x3)] [] S := by
  unfold j_L_law_1585 at h
  refine x_aload_n 1 dL_law_1585 rfl rfl ?_
  refine x_aload_n 0 dL_law_1586 rfl rfl ?_
  refine x_iload_n 3 dL_law_1587 rfl rfl ?_
  refine x_iconst (v := (1 : Int32)) dL_law_1588 (by decide) ?_
  refine x_iadd dL_law_1589 ?_
  refine x_sld dL_law_1590 h (fun v285 hv285 h => ?_)
  refine z_bnd h (fun q286 hq286 h => ?_)
  refine x_callV1 rfl (w_X11_fleet hq286) cw_X11_fleet q_953 ⟨by decide, by decide⟩ (Nat.le_of_ble_eq_true rfl) dL_law_1591 rfl ?_
  refine x_aload_n 2 dL_law_1594 rfl rfl ?_
  refine x_aload_n 0 dL_law_1595 rfl rfl ?_
  refine x_iload_n 3 dL_law_1596 rfl rfl ?_
  refine x_iconst (v := (1 : Int32)) dL_law_1597 (by decide) ?_
  refine x_iadd dL_law_1598 ?_
  refine x_sld dL_law_1599 h (fun v287 hv287 h => ?_)
  refine z_bnd h (fun q288 hq288 h => ?_)
  refine x_callV1 rfl (w_X12_fleet hq288) cw_X12_fleet q_1469 ⟨by decide, by decide⟩ (Nat.le_of_ble_eq_true rfl) dL_law_1600 rfl ?_
  refine x_ic_eq (tgt := 1901) dL_law_1603 (by decide) h (fun h => ?_) (fun h => ?_)
  · refine x_iinc (v := (x3 + 10)) (lo' := [(3, z_i (x3 + 10)), (0, z_r 99 (some 0)), (1, z_r 11 (some n1)), (2, z_r 12 (some n2))]) 3 dL_law_1901 rfl (congrArg (HAdd.hAdd x3) (by decide)) (by decide) rfl ?_
    refine x_goto (tgt := 18) dL_law_1904 (by decide) ?_
    cases h
    exact x_lo [1, 2, 3, 0] rfl k
  · cases h
set_option maxRecDepth 20000 in
theorem k_L_law_1608 {L : Nat} {xs : Nat → Int32} {n1 : Nat} {n2 : Nat} {x3 : Int32}   {S : ZH} {z : (Int32 × ZH) ⊕ (ZH)} (h : j_L_law_1608 L xs n1 n2 x3 S = some z) (k : Sum.elim (fun v : Int32 × ZH => Wp Y_L_law zE (z_FL L xs) 18 [(0, z_r 99 (some 0)), (1, z_r 11 (some n1)), (2, z_r 12 (some n2)), (3, z_i v.1)] [] v.2) (fun t => Wp Y_L_law zE (z_FL L xs) 1907 [] [] t) z) : Wp Y_L_law zE (z_FL L xs) 1608 [(0, z_r 99 (some 0)), (1, z_r 11 (some n1)), (2, z_r 12 (some n2)), (3, z_i x3)] [] S := by
  unfold j_L_law_1608 at h
  refine x_aload_n 1 dL_law_1608 rfl rfl ?_
  refine x_aload_n 0 dL_law_1609 rfl rfl ?_
  refine x_iload_n 3 dL_law_1610 rfl rfl ?_
  refine x_iconst (v := (1 : Int32)) dL_law_1611 (by decide) ?_
  refine x_iadd dL_law_1612 ?_
  refine x_sld dL_law_1613 h (fun v290 hv290 h => ?_)
  refine z_bnd h (fun q291 hq291 h => ?_)
  refine x_callV1 rfl (w_X11_sail hq291) cw_X11_sail q_963 ⟨by decide, by decide⟩ (Nat.le_of_ble_eq_true rfl) dL_law_1614 rfl ?_
  refine x_aload_n 2 dL_law_1617 rfl rfl ?_
  refine x_aload_n 0 dL_law_1618 rfl rfl ?_
  refine x_iload_n 3 dL_law_1619 rfl rfl ?_
  refine x_iconst (v := (1 : Int32)) dL_law_1620 (by decide) ?_
  refine x_iadd dL_law_1621 ?_
  refine x_sld dL_law_1622 h (fun v292 hv292 h => ?_)
  refine z_bnd h (fun q293 hq293 h => ?_)
  refine x_callV1 rfl (w_X12_sail hq293) cw_X12_sail q_1473 ⟨by decide, by decide⟩ (Nat.le_of_ble_eq_true rfl) dL_law_1623 rfl ?_
  refine x_ic_eq (tgt := 1901) dL_law_1626 (by decide) h (fun h => ?_) (fun h => ?_)
  · refine x_iinc (v := (x3 + 10)) (lo' := [(3, z_i (x3 + 10)), (0, z_r 99 (some 0)), (1, z_r 11 (some n1)), (2, z_r 12 (some n2))]) 3 dL_law_1901 rfl (congrArg (HAdd.hAdd x3) (by decide)) (by decide) rfl ?_
    refine x_goto (tgt := 18) dL_law_1904 (by decide) ?_
    cases h
    exact x_lo [1, 2, 3, 0] rfl k
  · cases h
set_option maxRecDepth 20000 in
theorem k_L_law_1631 {L : Nat} {xs : Nat → Int32} {n1 : Nat} {n2 : Nat} {x3 : Int32}   {S : ZH} {z : (Int32 × ZH) ⊕ (ZH)} (h : j_L_law_1631 L xs n1 n2 x3 S = some z) (k : Sum.elim (fun v : Int32 × ZH => Wp Y_L_law zE (z_FL L xs) 18 [(0, z_r 99 (some 0)), (1, z_r 11 (some n1)), (2, z_r 12 (some n2)), (3, z_i v.1)] [] v.2) (fun t => Wp Y_L_law zE (z_FL L xs) 1907 [] [] t) z) : Wp Y_L_law zE (z_FL L xs) 1631 [(0, z_r 99 (some 0)), (1, z_r 11 (some n1)), (2, z_r 12 (some n2)), (3, z_i x3)] [] S := by
  unfold j_L_law_1631 at h
  refine x_aload_n 1 dL_law_1631 rfl rfl ?_
  refine x_aload_n 0 dL_law_1632 rfl rfl ?_
  refine x_iload_n 3 dL_law_1633 rfl rfl ?_
  refine x_iconst (v := (1 : Int32)) dL_law_1634 (by decide) ?_
  refine x_iadd dL_law_1635 ?_
  refine x_sld dL_law_1636 h (fun v295 hv295 h => ?_)
  refine z_bnd h (fun q296 hq296 h => ?_)
  refine x_callV1 rfl (w_X11_comeHome hq296) cw_X11_comeHome q_967 ⟨by decide, by decide⟩ (Nat.le_of_ble_eq_true rfl) dL_law_1637 rfl ?_
  refine x_aload_n 2 dL_law_1640 rfl rfl ?_
  refine x_aload_n 0 dL_law_1641 rfl rfl ?_
  refine x_iload_n 3 dL_law_1642 rfl rfl ?_
  refine x_iconst (v := (1 : Int32)) dL_law_1643 (by decide) ?_
  refine x_iadd dL_law_1644 ?_
  refine x_sld dL_law_1645 h (fun v297 hv297 h => ?_)
  refine z_bnd h (fun q298 hq298 h => ?_)
  refine x_callV1 rfl (w_X12_comeHome hq298) cw_X12_comeHome q_1477 ⟨by decide, by decide⟩ (Nat.le_of_ble_eq_true rfl) dL_law_1646 rfl ?_
  refine x_ic_eq (tgt := 1901) dL_law_1649 (by decide) h (fun h => ?_) (fun h => ?_)
  · refine x_iinc (v := (x3 + 10)) (lo' := [(3, z_i (x3 + 10)), (0, z_r 99 (some 0)), (1, z_r 11 (some n1)), (2, z_r 12 (some n2))]) 3 dL_law_1901 rfl (congrArg (HAdd.hAdd x3) (by decide)) (by decide) rfl ?_
    refine x_goto (tgt := 18) dL_law_1904 (by decide) ?_
    cases h
    exact x_lo [1, 2, 3, 0] rfl k
  · cases h
set_option maxRecDepth 20000 in
theorem k_L_law_1654 {L : Nat} {xs : Nat → Int32} {n1 : Nat} {n2 : Nat} {x3 : Int32}   {S : ZH} {z : (Int32 × ZH) ⊕ (ZH)} (h : j_L_law_1654 L xs n1 n2 x3 S = some z) (k : Sum.elim (fun v : Int32 × ZH => Wp Y_L_law zE (z_FL L xs) 18 [(0, z_r 99 (some 0)), (1, z_r 11 (some n1)), (2, z_r 12 (some n2)), (3, z_i v.1)] [] v.2) (fun t => Wp Y_L_law zE (z_FL L xs) 1907 [] [] t) z) : Wp Y_L_law zE (z_FL L xs) 1654 [(0, z_r 99 (some 0)), (1, z_r 11 (some n1)), (2, z_r 12 (some n2)), (3, z_i x3)] [] S := by
  unfold j_L_law_1654 at h
  refine x_aload_n 1 dL_law_1654 rfl rfl ?_
  refine x_aload_n 0 dL_law_1655 rfl rfl ?_
  refine x_iload_n 3 dL_law_1656 rfl rfl ?_
  refine x_iconst (v := (1 : Int32)) dL_law_1657 (by decide) ?_
  refine x_iadd dL_law_1658 ?_
  refine x_sld dL_law_1659 h (fun v300 hv300 h => ?_)
  refine x_aload_n 0 dL_law_1660 rfl rfl ?_
  refine x_iload_n 3 dL_law_1661 rfl rfl ?_
  refine x_iconst (v := (2 : Int32)) dL_law_1662 (by decide) ?_
  refine x_iadd dL_law_1663 ?_
  refine x_sld dL_law_1664 h (fun v301 hv301 h => ?_)
  refine x_aload_n 0 dL_law_1665 rfl rfl ?_
  refine x_iload_n 3 dL_law_1666 rfl rfl ?_
  refine x_iconst (v := (3 : Int32)) dL_law_1667 (by decide) ?_
  refine x_iadd dL_law_1668 ?_
  refine x_sld dL_law_1669 h (fun v302 hv302 h => ?_)
  refine z_bnd h (fun q303 hq303 h => ?_)
  refine x_callV1 rfl (w_X11_ticket hq303) cw_X11_ticket q_971 ⟨by decide, by decide⟩ (Nat.le_of_ble_eq_true rfl) dL_law_1670 rfl ?_
  refine x_aload_n 2 dL_law_1673 rfl rfl ?_
  refine x_aload_n 0 dL_law_1674 rfl rfl ?_
  refine x_iload_n 3 dL_law_1675 rfl rfl ?_
  refine x_iconst (v := (1 : Int32)) dL_law_1676 (by decide) ?_
  refine x_iadd dL_law_1677 ?_
  refine x_sld dL_law_1678 h (fun v304 hv304 h => ?_)
  refine x_aload_n 0 dL_law_1679 rfl rfl ?_
  refine x_iload_n 3 dL_law_1680 rfl rfl ?_
  refine x_iconst (v := (2 : Int32)) dL_law_1681 (by decide) ?_
  refine x_iadd dL_law_1682 ?_
  refine x_sld dL_law_1683 h (fun v305 hv305 h => ?_)
  refine x_aload_n 0 dL_law_1684 rfl rfl ?_
  refine x_iload_n 3 dL_law_1685 rfl rfl ?_
  refine x_iconst (v := (3 : Int32)) dL_law_1686 (by decide) ?_
  refine x_iadd dL_law_1687 ?_
  refine x_sld dL_law_1688 h (fun v306 hv306 h => ?_)
  refine z_bnd h (fun q307 hq307 h => ?_)
  refine x_callV1 rfl (w_X12_ticket hq307) cw_X12_ticket q_1481 ⟨by decide, by decide⟩ (Nat.le_of_ble_eq_true rfl) dL_law_1689 rfl ?_
  refine x_ic_eq (tgt := 1901) dL_law_1692 (by decide) h (fun h => ?_) (fun h => ?_)
  · refine x_iinc (v := (x3 + 10)) (lo' := [(3, z_i (x3 + 10)), (0, z_r 99 (some 0)), (1, z_r 11 (some n1)), (2, z_r 12 (some n2))]) 3 dL_law_1901 rfl (congrArg (HAdd.hAdd x3) (by decide)) (by decide) rfl ?_
    refine x_goto (tgt := 18) dL_law_1904 (by decide) ?_
    cases h
    exact x_lo [1, 2, 3, 0] rfl k
  · cases h
set_option maxRecDepth 20000 in
theorem k_L_law_1697 {L : Nat} {xs : Nat → Int32} {n1 : Nat} {n2 : Nat} {x3 : Int32}   {S : ZH} {z : (Int32 × ZH) ⊕ (ZH)} (h : j_L_law_1697 L xs n1 n2 x3 S = some z) (k : Sum.elim (fun v : Int32 × ZH => Wp Y_L_law zE (z_FL L xs) 18 [(0, z_r 99 (some 0)), (1, z_r 11 (some n1)), (2, z_r 12 (some n2)), (3, z_i v.1)] [] v.2) (fun t => Wp Y_L_law zE (z_FL L xs) 1907 [] [] t) z) : Wp Y_L_law zE (z_FL L xs) 1697 [(0, z_r 99 (some 0)), (1, z_r 11 (some n1)), (2, z_r 12 (some n2)), (3, z_i x3)] [] S := by
  unfold j_L_law_1697 at h
  refine x_aload_n 1 dL_law_1697 rfl rfl ?_
  refine x_aload_n 0 dL_law_1698 rfl rfl ?_
  refine x_iload_n 3 dL_law_1699 rfl rfl ?_
  refine x_iconst (v := (1 : Int32)) dL_law_1700 (by decide) ?_
  refine x_iadd dL_law_1701 ?_
  refine x_sld dL_law_1702 h (fun v309 hv309 h => ?_)
  refine x_aload_n 0 dL_law_1703 rfl rfl ?_
  refine x_iload_n 3 dL_law_1704 rfl rfl ?_
  refine x_iconst (v := (2 : Int32)) dL_law_1705 (by decide) ?_
  refine x_iadd dL_law_1706 ?_
  refine x_sld dL_law_1707 h (fun v310 hv310 h => ?_)
  refine x_aload_n 0 dL_law_1708 rfl rfl ?_
  refine x_iload_n 3 dL_law_1709 rfl rfl ?_
  refine x_iconst (v := (3 : Int32)) dL_law_1710 (by decide) ?_
  refine x_iadd dL_law_1711 ?_
  refine x_sld dL_law_1712 h (fun v311 hv311 h => ?_)
  refine z_bnd h (fun q312 hq312 h => ?_)
  refine x_callV1 rfl (w_X11_sell hq312) cw_X11_sell q_999 ⟨by decide, by decide⟩ (Nat.le_of_ble_eq_true rfl) dL_law_1713 rfl ?_
  refine x_aload_n 2 dL_law_1716 rfl rfl ?_
  refine x_aload_n 0 dL_law_1717 rfl rfl ?_
  refine x_iload_n 3 dL_law_1718 rfl rfl ?_
  refine x_iconst (v := (1 : Int32)) dL_law_1719 (by decide) ?_
  refine x_iadd dL_law_1720 ?_
  refine x_sld dL_law_1721 h (fun v313 hv313 h => ?_)
  refine x_aload_n 0 dL_law_1722 rfl rfl ?_
  refine x_iload_n 3 dL_law_1723 rfl rfl ?_
  refine x_iconst (v := (2 : Int32)) dL_law_1724 (by decide) ?_
  refine x_iadd dL_law_1725 ?_
  refine x_sld dL_law_1726 h (fun v314 hv314 h => ?_)
  refine x_aload_n 0 dL_law_1727 rfl rfl ?_
  refine x_iload_n 3 dL_law_1728 rfl rfl ?_
  refine x_iconst (v := (3 : Int32)) dL_law_1729 (by decide) ?_
  refine x_iadd dL_law_1730 ?_
  refine x_sld dL_law_1731 h (fun v315 hv315 h => ?_)
  refine z_bnd h (fun q316 hq316 h => ?_)
  refine x_callV1 rfl (w_X12_sell hq316) cw_X12_sell q_1486 ⟨by decide, by decide⟩ (Nat.le_of_ble_eq_true rfl) dL_law_1732 rfl ?_
  refine x_ic_eq (tgt := 1901) dL_law_1735 (by decide) h (fun h => ?_) (fun h => ?_)
  · refine x_iinc (v := (x3 + 10)) (lo' := [(3, z_i (x3 + 10)), (0, z_r 99 (some 0)), (1, z_r 11 (some n1)), (2, z_r 12 (some n2))]) 3 dL_law_1901 rfl (congrArg (HAdd.hAdd x3) (by decide)) (by decide) rfl ?_
    refine x_goto (tgt := 18) dL_law_1904 (by decide) ?_
    cases h
    exact x_lo [1, 2, 3, 0] rfl k
  · cases h
set_option maxRecDepth 20000 in
theorem k_L_law_1740 {L : Nat} {xs : Nat → Int32} {n1 : Nat} {n2 : Nat} {x3 : Int32}   {S : ZH} {z : (Int32 × ZH) ⊕ (ZH)} (h : j_L_law_1740 L xs n1 n2 x3 S = some z) (k : Sum.elim (fun v : Int32 × ZH => Wp Y_L_law zE (z_FL L xs) 18 [(0, z_r 99 (some 0)), (1, z_r 11 (some n1)), (2, z_r 12 (some n2)), (3, z_i v.1)] [] v.2) (fun t => Wp Y_L_law zE (z_FL L xs) 1907 [] [] t) z) : Wp Y_L_law zE (z_FL L xs) 1740 [(0, z_r 99 (some 0)), (1, z_r 11 (some n1)), (2, z_r 12 (some n2)), (3, z_i x3)] [] S := by
  unfold j_L_law_1740 at h
  refine x_aload_n 1 dL_law_1740 rfl rfl ?_
  refine x_aload_n 0 dL_law_1741 rfl rfl ?_
  refine x_iload_n 3 dL_law_1742 rfl rfl ?_
  refine x_iconst (v := (1 : Int32)) dL_law_1743 (by decide) ?_
  refine x_iadd dL_law_1744 ?_
  refine x_sld dL_law_1745 h (fun v318 hv318 h => ?_)
  refine x_aload_n 0 dL_law_1746 rfl rfl ?_
  refine x_iload_n 3 dL_law_1747 rfl rfl ?_
  refine x_iconst (v := (2 : Int32)) dL_law_1748 (by decide) ?_
  refine x_iadd dL_law_1749 ?_
  refine x_sld dL_law_1750 h (fun v319 hv319 h => ?_)
  refine z_bnd h (fun q320 hq320 h => ?_)
  refine x_callV1 rfl (w_X11_pay hq320) cw_X11_pay q_1014 ⟨by decide, by decide⟩ (Nat.le_of_ble_eq_true rfl) dL_law_1751 rfl ?_
  refine x_aload_n 2 dL_law_1754 rfl rfl ?_
  refine x_aload_n 0 dL_law_1755 rfl rfl ?_
  refine x_iload_n 3 dL_law_1756 rfl rfl ?_
  refine x_iconst (v := (1 : Int32)) dL_law_1757 (by decide) ?_
  refine x_iadd dL_law_1758 ?_
  refine x_sld dL_law_1759 h (fun v321 hv321 h => ?_)
  refine x_aload_n 0 dL_law_1760 rfl rfl ?_
  refine x_iload_n 3 dL_law_1761 rfl rfl ?_
  refine x_iconst (v := (2 : Int32)) dL_law_1762 (by decide) ?_
  refine x_iadd dL_law_1763 ?_
  refine x_sld dL_law_1764 h (fun v322 hv322 h => ?_)
  refine z_bnd h (fun q323 hq323 h => ?_)
  refine x_callV1 rfl (w_X12_pay hq323) cw_X12_pay q_1502 ⟨by decide, by decide⟩ (Nat.le_of_ble_eq_true rfl) dL_law_1765 rfl ?_
  refine x_ic_eq (tgt := 1901) dL_law_1768 (by decide) h (fun h => ?_) (fun h => ?_)
  · refine x_iinc (v := (x3 + 10)) (lo' := [(3, z_i (x3 + 10)), (0, z_r 99 (some 0)), (1, z_r 11 (some n1)), (2, z_r 12 (some n2))]) 3 dL_law_1901 rfl (congrArg (HAdd.hAdd x3) (by decide)) (by decide) rfl ?_
    refine x_goto (tgt := 18) dL_law_1904 (by decide) ?_
    cases h
    exact x_lo [1, 2, 3, 0] rfl k
  · cases h
set_option maxRecDepth 20000 in
theorem k_L_law_1773 {L : Nat} {xs : Nat → Int32} {n1 : Nat} {n2 : Nat} {x3 : Int32}   {S : ZH} {z : (Int32 × ZH) ⊕ (ZH)} (h : j_L_law_1773 L xs n1 n2 x3 S = some z) (k : Sum.elim (fun v : Int32 × ZH => Wp Y_L_law zE (z_FL L xs) 18 [(0, z_r 99 (some 0)), (1, z_r 11 (some n1)), (2, z_r 12 (some n2)), (3, z_i v.1)] [] v.2) (fun t => Wp Y_L_law zE (z_FL L xs) 1907 [] [] t) z) : Wp Y_L_law zE (z_FL L xs) 1773 [(0, z_r 99 (some 0)), (1, z_r 11 (some n1)), (2, z_r 12 (some n2)), (3, z_i x3)] [] S := by
  unfold j_L_law_1773 at h
  refine x_aload_n 1 dL_law_1773 rfl rfl ?_
  refine x_aload_n 0 dL_law_1774 rfl rfl ?_
  refine x_iload_n 3 dL_law_1775 rfl rfl ?_
  refine x_iconst (v := (1 : Int32)) dL_law_1776 (by decide) ?_
  refine x_iadd dL_law_1777 ?_
  refine x_sld dL_law_1778 h (fun v325 hv325 h => ?_)
  refine x_aload_n 0 dL_law_1779 rfl rfl ?_
  refine x_iload_n 3 dL_law_1780 rfl rfl ?_
  refine x_iconst (v := (2 : Int32)) dL_law_1781 (by decide) ?_
  refine x_iadd dL_law_1782 ?_
  refine x_sld dL_law_1783 h (fun v326 hv326 h => ?_)
  refine z_bnd h (fun q327 hq327 h => ?_)
  refine x_callV1 rfl (w_X11_ticketOf hq327) cw_X11_ticketOf q_1018 ⟨by decide, by decide⟩ (Nat.le_of_ble_eq_true rfl) dL_law_1784 rfl ?_
  refine x_aload_n 2 dL_law_1787 rfl rfl ?_
  refine x_aload_n 0 dL_law_1788 rfl rfl ?_
  refine x_iload_n 3 dL_law_1789 rfl rfl ?_
  refine x_iconst (v := (1 : Int32)) dL_law_1790 (by decide) ?_
  refine x_iadd dL_law_1791 ?_
  refine x_sld dL_law_1792 h (fun v328 hv328 h => ?_)
  refine x_aload_n 0 dL_law_1793 rfl rfl ?_
  refine x_iload_n 3 dL_law_1794 rfl rfl ?_
  refine x_iconst (v := (2 : Int32)) dL_law_1795 (by decide) ?_
  refine x_iadd dL_law_1796 ?_
  refine x_sld dL_law_1797 h (fun v329 hv329 h => ?_)
  refine z_bnd h (fun q330 hq330 h => ?_)
  refine x_callV1 rfl (w_X12_ticketOf hq330) cw_X12_ticketOf q_1506 ⟨by decide, by decide⟩ (Nat.le_of_ble_eq_true rfl) dL_law_1798 rfl ?_
  refine x_ic_eq (tgt := 1901) dL_law_1801 (by decide) h (fun h => ?_) (fun h => ?_)
  · refine x_iinc (v := (x3 + 10)) (lo' := [(3, z_i (x3 + 10)), (0, z_r 99 (some 0)), (1, z_r 11 (some n1)), (2, z_r 12 (some n2))]) 3 dL_law_1901 rfl (congrArg (HAdd.hAdd x3) (by decide)) (by decide) rfl ?_
    refine x_goto (tgt := 18) dL_law_1904 (by decide) ?_
    cases h
    exact x_lo [1, 2, 3, 0] rfl k
  · cases h
set_option maxRecDepth 20000 in
theorem k_L_law_1806 {L : Nat} {xs : Nat → Int32} {n1 : Nat} {n2 : Nat} {x3 : Int32}   {S : ZH} {z : (Int32 × ZH) ⊕ (ZH)} (h : j_L_law_1806 L xs n1 n2 x3 S = some z) (k : Sum.elim (fun v : Int32 × ZH => Wp Y_L_law zE (z_FL L xs) 18 [(0, z_r 99 (some 0)), (1, z_r 11 (some n1)), (2, z_r 12 (some n2)), (3, z_i v.1)] [] v.2) (fun t => Wp Y_L_law zE (z_FL L xs) 1907 [] [] t) z) : Wp Y_L_law zE (z_FL L xs) 1806 [(0, z_r 99 (some 0)), (1, z_r 11 (some n1)), (2, z_r 12 (some n2)), (3, z_i x3)] [] S := by
  unfold j_L_law_1806 at h
  refine x_aload_n 1 dL_law_1806 rfl rfl ?_
  refine x_aload_n 0 dL_law_1807 rfl rfl ?_
  refine x_iload_n 3 dL_law_1808 rfl rfl ?_
  refine x_iconst (v := (1 : Int32)) dL_law_1809 (by decide) ?_
  refine x_iadd dL_law_1810 ?_
  refine x_sld dL_law_1811 h (fun v332 hv332 h => ?_)
  refine z_bnd h (fun q333 hq333 h => ?_)
  refine x_callV1 rfl (w_X11_purse hq333) cw_X11_purse q_1022 ⟨by decide, by decide⟩ (Nat.le_of_ble_eq_true rfl) dL_law_1812 rfl ?_
  refine x_aload_n 2 dL_law_1815 rfl rfl ?_
  refine x_aload_n 0 dL_law_1816 rfl rfl ?_
  refine x_iload_n 3 dL_law_1817 rfl rfl ?_
  refine x_iconst (v := (1 : Int32)) dL_law_1818 (by decide) ?_
  refine x_iadd dL_law_1819 ?_
  refine x_sld dL_law_1820 h (fun v334 hv334 h => ?_)
  refine z_bnd h (fun q335 hq335 h => ?_)
  refine x_callV1 rfl (w_X12_purse hq335) cw_X12_purse q_1510 ⟨by decide, by decide⟩ (Nat.le_of_ble_eq_true rfl) dL_law_1821 rfl ?_
  refine x_ic_eq (tgt := 1901) dL_law_1824 (by decide) h (fun h => ?_) (fun h => ?_)
  · refine x_iinc (v := (x3 + 10)) (lo' := [(3, z_i (x3 + 10)), (0, z_r 99 (some 0)), (1, z_r 11 (some n1)), (2, z_r 12 (some n2))]) 3 dL_law_1901 rfl (congrArg (HAdd.hAdd x3) (by decide)) (by decide) rfl ?_
    refine x_goto (tgt := 18) dL_law_1904 (by decide) ?_
    cases h
    exact x_lo [1, 2, 3, 0] rfl k
  · cases h
set_option maxRecDepth 20000 in
theorem k_L_law_1870 {L : Nat} {xs : Nat → Int32} {n1 : Nat} {n2 : Nat} {x3 : Int32} {s0 : Int32} {s1 : Option Nat} {s2 : Int32} {s3 : Int32}  {S : ZH} {z : (Int32 × ZH) ⊕ (ZH)} (h : j_L_law_1870 L xs n1 n2 x3 s0 s1 s2 s3 S = some z) (k : Sum.elim (fun v : Int32 × ZH => Wp Y_L_law zE (z_FL L xs) 18 [(0, z_r 99 (some 0)), (1, z_r 11 (some n1)), (2, z_r 12 (some n2)), (3, z_i v.1)] [] v.2) (fun t => Wp Y_L_law zE (z_FL L xs) 1907 [] [] t) z) : Wp Y_L_law zE (z_FL L xs) 1870 [(0, z_r 99 (some 0)), (1, z_r 11 (some n1)), (2, z_r 12 (some n2)), (3, z_i x3)] [z_i s3, z_i s2, z_r 12 s1, z_i s0] S := by
  unfold j_L_law_1870 at h
  refine z_bnd h (fun a343 ha343 h => ?_)
  revert h
  subst ha343
  intro h
  refine z_bnd h (fun q344 hq344 h => ?_)
  refine x_callV1 rfl (w_X12_wages hq344) cw_X12_wages q_1515 ⟨by decide, by decide⟩ (Nat.le_of_ble_eq_true rfl) dL_law_1870 rfl ?_
  refine x_ic_eq (tgt := 1901) dL_law_1873 (by decide) h (fun h => ?_) (fun h => ?_)
  · refine x_iinc (v := (x3 + 10)) (lo' := [(3, z_i (x3 + 10)), (0, z_r 99 (some 0)), (1, z_r 11 (some n1)), (2, z_r 12 (some n2))]) 3 dL_law_1901 rfl (congrArg (HAdd.hAdd x3) (by decide)) (by decide) rfl ?_
    refine x_goto (tgt := 18) dL_law_1904 (by decide) ?_
    cases h
    exact x_lo [1, 2, 3, 0] rfl k
  · cases h
set_option maxRecDepth 20000 in
theorem k_L_law_1848 {L : Nat} {xs : Nat → Int32} {n1 : Nat} {n2 : Nat} {x3 : Int32} {s0 : Option Nat} {s1 : Int32} {s2 : Int32}  {S : ZH} {z : (Int32 × ZH) ⊕ (ZH)} (h : j_L_law_1848 L xs n1 n2 x3 s0 s1 s2 S = some z) (k : Sum.elim (fun v : Int32 × ZH => Wp Y_L_law zE (z_FL L xs) 18 [(0, z_r 99 (some 0)), (1, z_r 11 (some n1)), (2, z_r 12 (some n2)), (3, z_i v.1)] [] v.2) (fun t => Wp Y_L_law zE (z_FL L xs) 1907 [] [] t) z) : Wp Y_L_law zE (z_FL L xs) 1848 [(0, z_r 99 (some 0)), (1, z_r 11 (some n1)), (2, z_r 12 (some n2)), (3, z_i x3)] [z_i s2, z_i s1, z_r 11 s0] S := by
  unfold j_L_law_1848 at h
  refine z_bnd h (fun a339 ha339 h => ?_)
  revert h
  subst ha339
  intro h
  refine z_bnd h (fun q340 hq340 h => ?_)
  refine x_callV1 rfl (w_X11_wages hq340) cw_X11_wages q_1026 ⟨by decide, by decide⟩ (Nat.le_of_ble_eq_true rfl) dL_law_1848 rfl ?_
  refine x_aload_n 2 dL_law_1851 rfl rfl ?_
  refine x_aload_n 0 dL_law_1852 rfl rfl ?_
  refine x_iload_n 3 dL_law_1853 rfl rfl ?_
  refine x_iconst (v := (1 : Int32)) dL_law_1854 (by decide) ?_
  refine x_iadd dL_law_1855 ?_
  refine x_sld dL_law_1856 h (fun v341 hv341 h => ?_)
  refine x_aload_n 0 dL_law_1857 rfl rfl ?_
  refine x_iload_n 3 dL_law_1858 rfl rfl ?_
  refine x_iconst (v := (2 : Int32)) dL_law_1859 (by decide) ?_
  refine x_iadd dL_law_1860 ?_
  refine x_sld dL_law_1861 h (fun v342 hv342 h => ?_)
  refine x_if_eq (tgt := 1869) dL_law_1862 (by decide) h (fun h => ?_) (fun h => ?_)
  · refine x_iconst (v := (0 : Int32)) dL_law_1869 (by decide) ?_
    exact x_lo [0, 1, 2, 3] rfl (k_L_law_1870 h k)
  · refine x_iconst (v := (1 : Int32)) dL_law_1865 (by decide) ?_
    refine x_goto (tgt := 1870) dL_law_1866 (by decide) ?_
    exact x_lo [0, 1, 2, 3] rfl (k_L_law_1870 h k)
set_option maxRecDepth 20000 in
theorem k_L_law_1829 {L : Nat} {xs : Nat → Int32} {n1 : Nat} {n2 : Nat} {x3 : Int32}   {S : ZH} {z : (Int32 × ZH) ⊕ (ZH)} (h : j_L_law_1829 L xs n1 n2 x3 S = some z) (k : Sum.elim (fun v : Int32 × ZH => Wp Y_L_law zE (z_FL L xs) 18 [(0, z_r 99 (some 0)), (1, z_r 11 (some n1)), (2, z_r 12 (some n2)), (3, z_i v.1)] [] v.2) (fun t => Wp Y_L_law zE (z_FL L xs) 1907 [] [] t) z) : Wp Y_L_law zE (z_FL L xs) 1829 [(0, z_r 99 (some 0)), (1, z_r 11 (some n1)), (2, z_r 12 (some n2)), (3, z_i x3)] [] S := by
  unfold j_L_law_1829 at h
  refine x_aload_n 1 dL_law_1829 rfl rfl ?_
  refine x_aload_n 0 dL_law_1830 rfl rfl ?_
  refine x_iload_n 3 dL_law_1831 rfl rfl ?_
  refine x_iconst (v := (1 : Int32)) dL_law_1832 (by decide) ?_
  refine x_iadd dL_law_1833 ?_
  refine x_sld dL_law_1834 h (fun v337 hv337 h => ?_)
  refine x_aload_n 0 dL_law_1835 rfl rfl ?_
  refine x_iload_n 3 dL_law_1836 rfl rfl ?_
  refine x_iconst (v := (2 : Int32)) dL_law_1837 (by decide) ?_
  refine x_iadd dL_law_1838 ?_
  refine x_sld dL_law_1839 h (fun v338 hv338 h => ?_)
  refine x_if_eq (tgt := 1847) dL_law_1840 (by decide) h (fun h => ?_) (fun h => ?_)
  · refine x_iconst (v := (0 : Int32)) dL_law_1847 (by decide) ?_
    exact x_lo [0, 1, 2, 3] rfl (k_L_law_1848 h k)
  · refine x_iconst (v := (1 : Int32)) dL_law_1843 (by decide) ?_
    refine x_goto (tgt := 1848) dL_law_1844 (by decide) ?_
    exact x_lo [0, 1, 2, 3] rfl (k_L_law_1848 h k)
set_option maxRecDepth 20000 in
theorem k_L_law_1878 {L : Nat} {xs : Nat → Int32} {n1 : Nat} {n2 : Nat} {x3 : Int32}   {S : ZH} {z : (Int32 × ZH) ⊕ (ZH)} (h : j_L_law_1878 L xs n1 n2 x3 S = some z) (k : Sum.elim (fun v : Int32 × ZH => Wp Y_L_law zE (z_FL L xs) 18 [(0, z_r 99 (some 0)), (1, z_r 11 (some n1)), (2, z_r 12 (some n2)), (3, z_i v.1)] [] v.2) (fun t => Wp Y_L_law zE (z_FL L xs) 1907 [] [] t) z) : Wp Y_L_law zE (z_FL L xs) 1878 [(0, z_r 99 (some 0)), (1, z_r 11 (some n1)), (2, z_r 12 (some n2)), (3, z_i x3)] [] S := by
  unfold j_L_law_1878 at h
  refine x_aload_n 1 dL_law_1878 rfl rfl ?_
  refine x_aload_n 0 dL_law_1879 rfl rfl ?_
  refine x_iload_n 3 dL_law_1880 rfl rfl ?_
  refine x_iconst (v := (1 : Int32)) dL_law_1881 (by decide) ?_
  refine x_iadd dL_law_1882 ?_
  refine x_sld dL_law_1883 h (fun v346 hv346 h => ?_)
  refine z_bnd h (fun q347 hq347 h => ?_)
  refine x_callV1 rfl (w_X11_count hq347) cw_X11_count q_1034 ⟨by decide, by decide⟩ (Nat.le_of_ble_eq_true rfl) dL_law_1884 rfl ?_
  refine x_aload_n 2 dL_law_1887 rfl rfl ?_
  refine x_aload_n 0 dL_law_1888 rfl rfl ?_
  refine x_iload_n 3 dL_law_1889 rfl rfl ?_
  refine x_iconst (v := (1 : Int32)) dL_law_1890 (by decide) ?_
  refine x_iadd dL_law_1891 ?_
  refine x_sld dL_law_1892 h (fun v348 hv348 h => ?_)
  refine z_bnd h (fun q349 hq349 h => ?_)
  refine x_callV1 rfl (w_X12_count hq349) cw_X12_count q_1519 ⟨by decide, by decide⟩ (Nat.le_of_ble_eq_true rfl) dL_law_1893 rfl ?_
  refine x_ic_eq (tgt := 1901) dL_law_1896 (by decide) h (fun h => ?_) (fun h => ?_)
  · refine x_iinc (v := (x3 + 10)) (lo' := [(3, z_i (x3 + 10)), (0, z_r 99 (some 0)), (1, z_r 11 (some n1)), (2, z_r 12 (some n2))]) 3 dL_law_1901 rfl (congrArg (HAdd.hAdd x3) (by decide)) (by decide) rfl ?_
    refine x_goto (tgt := 18) dL_law_1904 (by decide) ?_
    cases h
    exact x_lo [1, 2, 3, 0] rfl k
  · cases h
set_option maxRecDepth 20000 in
theorem l_L_law_18 {L : Nat} {xs : Nat → Int32} {n1 : Nat} {n2 : Nat} {v : Int32 × ZH} {t : ZH} (h : z_iter zFU (b_L_law_18 L xs n1 n2) v = some t) (k : (fun t => Wp Y_L_law zE (z_FL L xs) 1907 [] [] t) t) : Wp Y_L_law zE (z_FL L xs) 18 [(0, z_r 99 (some 0)), (1, z_r 11 (some n1)), (2, z_r 12 (some n2)), (3, z_i v.1)] [] v.2 := by
  refine z_iter_P (P := fun v : Int32 × ZH => Wp Y_L_law zE (z_FL L xs) 18 [(0, z_r 99 (some 0)), (1, z_r 11 (some n1)), (2, z_r 12 (some n2)), (3, z_i v.1)] [] v.2) (X := (fun t => Wp Y_L_law zE (z_FL L xs) 1907 [] [] t)) ?_ _ _ _ h k
  clear h k v t
  intro v r h k
  unfold b_L_law_18 at h
  refine x_iload_n 3 dL_law_18 rfl rfl ?_
  refine x_aload_n 0 dL_law_19 rfl rfl ?_
  refine x_slen dL_law_20 ?_
  refine x_bipush (v := (10 : Int32)) dL_law_21 (by decide) ?_
  refine x_isub dL_law_23 ?_
  refine x_ic_gt (tgt := 1907) dL_law_24 (by decide) h (fun h => ?_) (fun h => ?_)
  · cases h
    exact x_lo [] rfl k
  · refine x_aload_n 0 dL_law_27 rfl rfl ?_
    refine x_iload_n 3 dL_law_28 rfl rfl ?_
    refine x_sld dL_law_29 h (fun v5 hv5 h => ?_)
    refine x_bipush (v := (63 : Int32)) dL_law_30 (by decide) ?_
    refine x_iand dL_law_32 ?_
    refine z_ite h (fun hx10 h => ?_) (fun hx10 h => ?_)
    · refine x_tabIn (tgt := 244) dL_law_33 hx10 (by decide) (by decide) rfl (by decide) ?_
      exact x_lo [0, 1, 2, 3] rfl (k_L_law_244 h k)
    · refine z_ite h (fun hx21 h => ?_) (fun hx21 h => ?_)
      · refine x_tabIn (tgt := 267) dL_law_33 hx21 (by decide) (by decide) rfl (by decide) ?_
        exact x_lo [0, 1, 2, 3] rfl (k_L_law_267 h k)
      · refine z_ite h (fun hx28 h => ?_) (fun hx28 h => ?_)
        · refine x_tabIn (tgt := 326) dL_law_33 hx28 (by decide) (by decide) rfl (by decide) ?_
          exact x_lo [0, 1, 2, 3] rfl (k_L_law_326 h k)
        · refine z_ite h (fun hx45 h => ?_) (fun hx45 h => ?_)
          · refine x_tabIn (tgt := 359) dL_law_33 hx45 (by decide) (by decide) rfl (by decide) ?_
            exact x_lo [0, 1, 2, 3] rfl (k_L_law_359 h k)
          · refine z_ite h (fun hx52 h => ?_) (fun hx52 h => ?_)
            · refine x_tabIn (tgt := 446) dL_law_33 hx52 (by decide) (by decide) rfl (by decide) ?_
              exact x_lo [0, 1, 2, 3] rfl (k_L_law_446 h k)
            · refine z_ite h (fun hx61 h => ?_) (fun hx61 h => ?_)
              · refine x_tabIn (tgt := 479) dL_law_33 hx61 (by decide) (by decide) rfl (by decide) ?_
                exact x_lo [0, 1, 2, 3] rfl (k_L_law_479 h k)
              · refine z_ite h (fun hx68 h => ?_) (fun hx68 h => ?_)
                · refine x_tabIn (tgt := 528) dL_law_33 hx68 (by decide) (by decide) rfl (by decide) ?_
                  exact x_lo [0, 1, 2, 3] rfl (k_L_law_528 h k)
                · refine z_ite h (fun hx73 h => ?_) (fun hx73 h => ?_)
                  · refine x_tabIn (tgt := 561) dL_law_33 hx73 (by decide) (by decide) rfl (by decide) ?_
                    exact x_lo [0, 1, 2, 3] rfl (k_L_law_561 h k)
                  · refine z_ite h (fun hx76 h => ?_) (fun hx76 h => ?_)
                    · refine x_tabIn (tgt := 584) dL_law_33 hx76 (by decide) (by decide) rfl (by decide) ?_
                      exact x_lo [0, 1, 2, 3] rfl (k_L_law_584 h k)
                    · refine z_ite h (fun hx81 h => ?_) (fun hx81 h => ?_)
                      · refine x_tabIn (tgt := 597) dL_law_33 hx81 (by decide) (by decide) rfl (by decide) ?_
                        exact x_lo [0, 1, 2, 3] rfl (k_L_law_597 h k)
                      · refine z_ite h (fun hx88 h => ?_) (fun hx88 h => ?_)
                        · refine x_tabIn (tgt := 620) dL_law_33 hx88 (by decide) (by decide) rfl (by decide) ?_
                          exact x_lo [0, 1, 2, 3] rfl (k_L_law_620 h k)
                        · refine z_ite h (fun hx93 h => ?_) (fun hx93 h => ?_)
                          · refine x_tabIn (tgt := 653) dL_law_33 hx93 (by decide) (by decide) rfl (by decide) ?_
                            exact x_lo [0, 1, 2, 3] rfl (k_L_law_653 h k)
                          · refine z_ite h (fun hx114 h => ?_) (fun hx114 h => ?_)
                            · refine x_tabIn (tgt := 676) dL_law_33 hx114 (by decide) (by decide) rfl (by decide) ?_
                              exact x_lo [0, 1, 2, 3] rfl (k_L_law_676 h k)
                            · refine z_ite h (fun hx123 h => ?_) (fun hx123 h => ?_)
                              · refine x_tabIn (tgt := 787) dL_law_33 hx123 (by decide) (by decide) rfl (by decide) ?_
                                exact x_lo [0, 1, 2, 3] rfl (k_L_law_787 h k)
                              · refine z_ite h (fun hx130 h => ?_) (fun hx130 h => ?_)
                                · refine x_tabIn (tgt := 830) dL_law_33 hx130 (by decide) (by decide) rfl (by decide) ?_
                                  exact x_lo [0, 1, 2, 3] rfl (k_L_law_830 h k)
                                · refine z_ite h (fun hx137 h => ?_) (fun hx137 h => ?_)
                                  · refine x_tabIn (tgt := 863) dL_law_33 hx137 (by decide) (by decide) rfl (by decide) ?_
                                    exact x_lo [0, 1, 2, 3] rfl (k_L_law_863 h k)
                                  · refine z_ite h (fun hx142 h => ?_) (fun hx142 h => ?_)
                                    · refine x_tabIn (tgt := 896) dL_law_33 hx142 (by decide) (by decide) rfl (by decide) ?_
                                      exact x_lo [0, 1, 2, 3] rfl (k_L_law_896 h k)
                                    · refine z_ite h (fun hx149 h => ?_) (fun hx149 h => ?_)
                                      · refine x_tabIn (tgt := 919) dL_law_33 hx149 (by decide) (by decide) rfl (by decide) ?_
                                        exact x_lo [0, 1, 2, 3] rfl (k_L_law_919 h k)
                                      · refine z_ite h (fun hx154 h => ?_) (fun hx154 h => ?_)
                                        · refine x_tabIn (tgt := 952) dL_law_33 hx154 (by decide) (by decide) rfl (by decide) ?_
                                          exact x_lo [0, 1, 2, 3] rfl (k_L_law_952 h k)
                                        · refine z_ite h (fun hx159 h => ?_) (fun hx159 h => ?_)
                                          · refine x_tabIn (tgt := 975) dL_law_33 hx159 (by decide) (by decide) rfl (by decide) ?_
                                            exact x_lo [0, 1, 2, 3] rfl (k_L_law_975 h k)
                                          · refine z_ite h (fun hx166 h => ?_) (fun hx166 h => ?_)
                                            · refine x_tabIn (tgt := 998) dL_law_33 hx166 (by decide) (by decide) rfl (by decide) ?_
                                              exact x_lo [0, 1, 2, 3] rfl (k_L_law_998 h k)
                                            · refine z_ite h (fun hx171 h => ?_) (fun hx171 h => ?_)
                                              · refine x_tabIn (tgt := 1031) dL_law_33 hx171 (by decide) (by decide) rfl (by decide) ?_
                                                exact x_lo [0, 1, 2, 3] rfl (k_L_law_1031 h k)
                                              · refine z_ite h (fun hx178 h => ?_) (fun hx178 h => ?_)
                                                · refine x_tabIn (tgt := 1054) dL_law_33 hx178 (by decide) (by decide) rfl (by decide) ?_
                                                  exact x_lo [0, 1, 2, 3] rfl (k_L_law_1054 h k)
                                                · refine z_ite h (fun hx185 h => ?_) (fun hx185 h => ?_)
                                                  · refine x_tabIn (tgt := 1087) dL_law_33 hx185 (by decide) (by decide) rfl (by decide) ?_
                                                    exact x_lo [0, 1, 2, 3] rfl (k_L_law_1087 h k)
                                                  · refine z_ite h (fun hx188 h => ?_) (fun hx188 h => ?_)
                                                    · refine x_tabIn (tgt := 1120) dL_law_33 hx188 (by decide) (by decide) rfl (by decide) ?_
                                                      exact x_lo [0, 1, 2, 3] rfl (k_L_law_1120 h k)
                                                    · refine z_ite h (fun hx193 h => ?_) (fun hx193 h => ?_)
                                                      · refine x_tabIn (tgt := 1133) dL_law_33 hx193 (by decide) (by decide) rfl (by decide) ?_
                                                        exact x_lo [0, 1, 2, 3] rfl (k_L_law_1133 h k)
                                                      · refine z_ite h (fun hx198 h => ?_) (fun hx198 h => ?_)
                                                        · refine x_tabIn (tgt := 1156) dL_law_33 hx198 (by decide) (by decide) rfl (by decide) ?_
                                                          exact x_lo [0, 1, 2, 3] rfl (k_L_law_1156 h k)
                                                        · refine z_ite h (fun hx201 h => ?_) (fun hx201 h => ?_)
                                                          · refine x_tabIn (tgt := 1179) dL_law_33 hx201 (by decide) (by decide) rfl (by decide) ?_
                                                            exact x_lo [0, 1, 2, 3] rfl (k_L_law_1179 h k)
                                                          · refine z_ite h (fun hx206 h => ?_) (fun hx206 h => ?_)
                                                            · refine x_tabIn (tgt := 1192) dL_law_33 hx206 (by decide) (by decide) rfl (by decide) ?_
                                                              exact x_lo [0, 1, 2, 3] rfl (k_L_law_1192 h k)
                                                            · refine z_ite h (fun hx213 h => ?_) (fun hx213 h => ?_)
                                                              · refine x_tabIn (tgt := 1215) dL_law_33 hx213 (by decide) (by decide) rfl (by decide) ?_
                                                                exact x_lo [0, 1, 2, 3] rfl (k_L_law_1215 h k)
                                                              · refine z_ite h (fun hx220 h => ?_) (fun hx220 h => ?_)
                                                                · refine x_tabIn (tgt := 1248) dL_law_33 hx220 (by decide) (by decide) rfl (by decide) ?_
                                                                  exact x_lo [0, 1, 2, 3] rfl (k_L_law_1248 h k)
                                                                · refine z_ite h (fun hx231 h => ?_) (fun hx231 h => ?_)
                                                                  · refine x_tabIn (tgt := 1281) dL_law_33 hx231 (by decide) (by decide) rfl (by decide) ?_
                                                                    exact x_lo [0, 1, 2, 3] rfl (k_L_law_1281 h k)
                                                                  · refine z_ite h (fun hx242 h => ?_) (fun hx242 h => ?_)
                                                                    · refine x_tabIn (tgt := 1334) dL_law_33 hx242 (by decide) (by decide) rfl (by decide) ?_
                                                                      exact x_lo [0, 1, 2, 3] rfl (k_L_law_1334 h k)
                                                                    · refine z_ite h (fun hx249 h => ?_) (fun hx249 h => ?_)
                                                                      · refine x_tabIn (tgt := 1387) dL_law_33 hx249 (by decide) (by decide) rfl (by decide) ?_
                                                                        exact x_lo [0, 1, 2, 3] rfl (k_L_law_1387 h k)
                                                                      · refine z_ite h (fun hx256 h => ?_) (fun hx256 h => ?_)
                                                                        · refine x_tabIn (tgt := 1420) dL_law_33 hx256 (by decide) (by decide) rfl (by decide) ?_
                                                                          exact x_lo [0, 1, 2, 3] rfl (k_L_law_1420 h k)
                                                                        · refine z_ite h (fun hx263 h => ?_) (fun hx263 h => ?_)
                                                                          · refine x_tabIn (tgt := 1453) dL_law_33 hx263 (by decide) (by decide) rfl (by decide) ?_
                                                                            exact x_lo [0, 1, 2, 3] rfl (k_L_law_1453 h k)
                                                                          · refine z_ite h (fun hx270 h => ?_) (fun hx270 h => ?_)
                                                                            · refine x_tabIn (tgt := 1486) dL_law_33 hx270 (by decide) (by decide) rfl (by decide) ?_
                                                                              exact x_lo [0, 1, 2, 3] rfl (k_L_law_1486 h k)
                                                                            · refine z_ite h (fun hx277 h => ?_) (fun hx277 h => ?_)
                                                                              · refine x_tabIn (tgt := 1519) dL_law_33 hx277 (by decide) (by decide) rfl (by decide) ?_
                                                                                exact x_lo [0, 1, 2, 3] rfl (k_L_law_1519 h k)
                                                                              · refine z_ite h (fun hx284 h => ?_) (fun hx284 h => ?_)
                                                                                · refine x_tabIn (tgt := 1552) dL_law_33 hx284 (by decide) (by decide) rfl (by decide) ?_
                                                                                  exact x_lo [0, 1, 2, 3] rfl (k_L_law_1552 h k)
                                                                                · refine z_ite h (fun hx289 h => ?_) (fun hx289 h => ?_)
                                                                                  · refine x_tabIn (tgt := 1585) dL_law_33 hx289 (by decide) (by decide) rfl (by decide) ?_
                                                                                    exact x_lo [0, 1, 2, 3] rfl (k_L_law_1585 h k)
                                                                                  · refine z_ite h (fun hx294 h => ?_) (fun hx294 h => ?_)
                                                                                    · refine x_tabIn (tgt := 1608) dL_law_33 hx294 (by decide) (by decide) rfl (by decide) ?_
                                                                                      exact x_lo [0, 1, 2, 3] rfl (k_L_law_1608 h k)
                                                                                    · refine z_ite h (fun hx299 h => ?_) (fun hx299 h => ?_)
                                                                                      · refine x_tabIn (tgt := 1631) dL_law_33 hx299 (by decide) (by decide) rfl (by decide) ?_
                                                                                        exact x_lo [0, 1, 2, 3] rfl (k_L_law_1631 h k)
                                                                                      · refine z_ite h (fun hx308 h => ?_) (fun hx308 h => ?_)
                                                                                        · refine x_tabIn (tgt := 1654) dL_law_33 hx308 (by decide) (by decide) rfl (by decide) ?_
                                                                                          exact x_lo [0, 1, 2, 3] rfl (k_L_law_1654 h k)
                                                                                        · refine z_ite h (fun hx317 h => ?_) (fun hx317 h => ?_)
                                                                                          · refine x_tabIn (tgt := 1697) dL_law_33 hx317 (by decide) (by decide) rfl (by decide) ?_
                                                                                            exact x_lo [0, 1, 2, 3] rfl (k_L_law_1697 h k)
                                                                                          · refine z_ite h (fun hx324 h => ?_) (fun hx324 h => ?_)
                                                                                            · refine x_tabIn (tgt := 1740) dL_law_33 hx324 (by decide) (by decide) rfl (by decide) ?_
                                                                                              exact x_lo [0, 1, 2, 3] rfl (k_L_law_1740 h k)
                                                                                            · refine z_ite h (fun hx331 h => ?_) (fun hx331 h => ?_)
                                                                                              · refine x_tabIn (tgt := 1773) dL_law_33 hx331 (by decide) (by decide) rfl (by decide) ?_
                                                                                                exact x_lo [0, 1, 2, 3] rfl (k_L_law_1773 h k)
                                                                                              · refine z_ite h (fun hx336 h => ?_) (fun hx336 h => ?_)
                                                                                                · refine x_tabIn (tgt := 1806) dL_law_33 hx336 (by decide) (by decide) rfl (by decide) ?_
                                                                                                  exact x_lo [0, 1, 2, 3] rfl (k_L_law_1806 h k)
                                                                                                · refine z_ite h (fun hx345 h => ?_) (fun hx345 h => ?_)
                                                                                                  · refine x_tabIn (tgt := 1829) dL_law_33 hx345 (by decide) (by decide) rfl (by decide) ?_
                                                                                                    exact x_lo [0, 1, 2, 3] rfl (k_L_law_1829 h k)
                                                                                                  · refine z_ite h (fun hx350 h => ?_) (fun hx350 h => ?_)
                                                                                                    · refine x_tabIn (tgt := 1878) dL_law_33 hx350 (by decide) (by decide) rfl (by decide) ?_
                                                                                                      exact x_lo [0, 1, 2, 3] rfl (k_L_law_1878 h k)
                                                                                                    · refine x_tabOut (tgt := 1901) dL_law_33 (by
                                                                                                          have hx10 := z_neI hx10 (n := 0) (by decide)
                                                                                                          have hx21 := z_neI hx21 (n := 1) (by decide)
                                                                                                          have hx28 := z_neI hx28 (n := 2) (by decide)
                                                                                                          have hx45 := z_neI hx45 (n := 3) (by decide)
                                                                                                          have hx52 := z_neI hx52 (n := 4) (by decide)
                                                                                                          have hx61 := z_neI hx61 (n := 5) (by decide)
                                                                                                          have hx68 := z_neI hx68 (n := 6) (by decide)
                                                                                                          have hx73 := z_neI hx73 (n := 7) (by decide)
                                                                                                          have hx76 := z_neI hx76 (n := 8) (by decide)
                                                                                                          have hx81 := z_neI hx81 (n := 9) (by decide)
                                                                                                          have hx88 := z_neI hx88 (n := 10) (by decide)
                                                                                                          have hx93 := z_neI hx93 (n := 11) (by decide)
                                                                                                          have hx114 := z_neI hx114 (n := 12) (by decide)
                                                                                                          have hx123 := z_neI hx123 (n := 13) (by decide)
                                                                                                          have hx130 := z_neI hx130 (n := 14) (by decide)
                                                                                                          have hx137 := z_neI hx137 (n := 15) (by decide)
                                                                                                          have hx142 := z_neI hx142 (n := 16) (by decide)
                                                                                                          have hx149 := z_neI hx149 (n := 17) (by decide)
                                                                                                          have hx154 := z_neI hx154 (n := 18) (by decide)
                                                                                                          have hx159 := z_neI hx159 (n := 19) (by decide)
                                                                                                          have hx166 := z_neI hx166 (n := 20) (by decide)
                                                                                                          have hx171 := z_neI hx171 (n := 21) (by decide)
                                                                                                          have hx178 := z_neI hx178 (n := 22) (by decide)
                                                                                                          have hx185 := z_neI hx185 (n := 23) (by decide)
                                                                                                          have hx188 := z_neI hx188 (n := 24) (by decide)
                                                                                                          have hx193 := z_neI hx193 (n := 25) (by decide)
                                                                                                          have hx198 := z_neI hx198 (n := 26) (by decide)
                                                                                                          have hx201 := z_neI hx201 (n := 27) (by decide)
                                                                                                          have hx206 := z_neI hx206 (n := 28) (by decide)
                                                                                                          have hx213 := z_neI hx213 (n := 29) (by decide)
                                                                                                          have hx220 := z_neI hx220 (n := 30) (by decide)
                                                                                                          have hx231 := z_neI hx231 (n := 31) (by decide)
                                                                                                          have hx242 := z_neI hx242 (n := 32) (by decide)
                                                                                                          have hx249 := z_neI hx249 (n := 33) (by decide)
                                                                                                          have hx256 := z_neI hx256 (n := 34) (by decide)
                                                                                                          have hx263 := z_neI hx263 (n := 35) (by decide)
                                                                                                          have hx270 := z_neI hx270 (n := 36) (by decide)
                                                                                                          have hx277 := z_neI hx277 (n := 37) (by decide)
                                                                                                          have hx284 := z_neI hx284 (n := 38) (by decide)
                                                                                                          have hx289 := z_neI hx289 (n := 39) (by decide)
                                                                                                          have hx294 := z_neI hx294 (n := 40) (by decide)
                                                                                                          have hx299 := z_neI hx299 (n := 41) (by decide)
                                                                                                          have hx308 := z_neI hx308 (n := 42) (by decide)
                                                                                                          have hx317 := z_neI hx317 (n := 43) (by decide)
                                                                                                          have hx324 := z_neI hx324 (n := 44) (by decide)
                                                                                                          have hx331 := z_neI hx331 (n := 45) (by decide)
                                                                                                          have hx336 := z_neI hx336 (n := 46) (by decide)
                                                                                                          have hx345 := z_neI hx345 (n := 47) (by decide)
                                                                                                          have hx350 := z_neI hx350 (n := 48) (by decide)
                                                                                                          omega) (by decide) ?_
                                                                                                      refine x_iinc (v := (v.1 + 10)) (lo' := [(3, z_i (v.1 + 10)), (0, z_r 99 (some 0)), (1, z_r 11 (some n1)), (2, z_r 12 (some n2))]) 3 dL_law_1901 rfl (congrArg (HAdd.hAdd v.1) (by decide)) (by decide) rfl ?_
                                                                                                      refine x_goto (tgt := 18) dL_law_1904 (by decide) ?_
                                                                                                      cases h
                                                                                                      exact x_lo [1, 2, 3, 0] rfl k
set_option maxRecDepth 20000 in
set_option maxHeartbeats 2000000 in
theorem w_L_law {L : Nat} {xs : Nat → Int32} {S q : ZH} (h : f_L_law L xs S = some q) : Wp Y_L_law zE (z_FL L xs) 0 [(0, z_r 99 (some 0))] [] S := by
  unfold f_L_law at h
  refine x_new ck_11 q_88 dL_law_0 h (fun S1 hS1 h => ?_)
  refine x_dup dL_law_3 rfl ?_
  refine z_bnd h (fun q2 hq2 h => ?_)
  refine x_callIv rfl (w_X11_init hq2) cw_X11_init q_90 ⟨by decide, by decide⟩ (Nat.le_of_ble_eq_true rfl) dL_law_4 rfl ?_
  refine x_astore_n (lo' := [(1, z_r 11 (some (zN S 11))), (0, z_r 99 (some 0))]) dL_law_7 rfl (by decide) rfl ?_
  refine x_new ck_12 q_1042 dL_law_8 h (fun S3 hS3 h => ?_)
  refine x_dup dL_law_11 rfl ?_
  refine z_bnd h (fun q4 hq4 h => ?_)
  refine x_callIv rfl (w_X12_init hq4) cw_X12_init q_1044 ⟨by decide, by decide⟩ (Nat.le_of_ble_eq_true rfl) dL_law_12 rfl ?_
  refine x_astore_n (lo' := [(2, z_r 12 (some (zN q2 12))), (1, z_r 11 (some (zN S 11))), (0, z_r 99 (some 0))]) dL_law_15 rfl (by decide) rfl ?_
  refine x_iconst (v := (0 : Int32)) dL_law_16 (by decide) ?_
  refine x_istore_n (lo' := [(3, z_i (0 : Int32)), (2, z_r 12 (some (zN q2 12))), (1, z_r 11 (some (zN S 11))), (0, z_r 99 (some 0))]) dL_law_17 rfl (by decide) rfl ?_
  refine z_bnd h (fun t351 ht351 h => ?_)
  refine x_lo [3, 2, 1, 0] rfl ?_
  refine l_L_law_18 ht351 ?_
  refine x_iconst (v := (1 : Int32)) dL_law_1907 (by decide) ?_
  exact x_lret dL_law_1908
