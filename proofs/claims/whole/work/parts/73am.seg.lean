-- X12_nameOf 
theorem sg_220 {L d : Nat} {xs : Nat → Int32} (I : Nat → Nat → Int32) (J : Nat → Nat → Int64) (tg : Option Nat) {r : Option Value × SS} (h : ((if (I 93 15) = 2 then (∃ (v49 : Int64) (I50 : Nat → Nat → Int32) (J51 : Nat → Nat → Int64) (tg52 : Option Nat), Runs (GW L xs) d 215 (0, [.int 108, .int 105, .int 110, .int 101, .int 115], [], (zS I J tg)) ((some (.long v49)), (zS I50 J51 tg52)) ∧ (if (lg_cmp (J 93 17) v49) = 0 then (r = (some (.int 0), (zS I50 J51 tg52))) else (∃ (v53 : Int64) (I54 : Nat → Nat → Int32) (J55 : Nat → Nat → Int64) (tg56 : Option Nat), Runs (GW L xs) d 217 (0, [.int 99, .int 105, .int 114, .int 99, .int 108, .int 101], [], (zS I50 J51 tg52)) ((some (.long v53)), (zS I54 J55 tg56)) ∧ (if (lg_cmp (J51 93 17) ((v53 <<< (Int32.toInt64 8 &&& 63)) ||| 115)) = 0 then (r = (some (.int 1), (zS I54 J55 tg56))) else (∃ (v57 : Int64) (I58 : Nat → Nat → Int32) (J59 : Nat → Nat → Int64) (tg60 : Option Nat), Runs (GW L xs) d 216 (0, [.int 98, .int 97, .int 114, .int 115], [], (zS I54 J55 tg56)) ((some (.long v57)), (zS I58 J59 tg60)) ∧ (if (lg_cmp (J55 93 17) v57) = 0 then (r = (some (.int 2), (zS I58 J59 tg60))) else (∃ (v61 : Int64) (I62 : Nat → Nat → Int32) (J63 : Nat → Nat → Int64) (tg64 : Option Nat), Runs (GW L xs) d 217 (0, [.int 97, .int 114, .int 114, .int 111, .int 119, .int 115], [], (zS I58 J59 tg60)) ((some (.long v61)), (zS I62 J63 tg64)) ∧ (if (lg_cmp (J59 93 17) v61) = 0 then (r = (some (.int 3), (zS I62 J63 tg64))) else (∃ (v65 : Int64) (I66 : Nat → Nat → Int32) (J67 : Nat → Nat → Int64) (tg68 : Option Nat), Runs (GW L xs) d 215 (0, [.int 102, .int 105, .int 108, .int 108, .int 115], [], (zS I62 J63 tg64)) ((some (.long v65)), (zS I66 J67 tg68)) ∧ (if (lg_cmp (J63 93 17) v65) = 0 then (r = (some (.int 4), (zS I66 J67 tg68))) else (∃ (v69 : Int64) (I70 : Nat → Nat → Int32) (J71 : Nat → Nat → Int64) (tg72 : Option Nat), Runs (GW L xs) d 215 (0, [.int 112, .int 97, .int 114, .int 116, .int 115], [], (zS I66 J67 tg68)) ((some (.long v69)), (zS I70 J71 tg72)) ∧ (if (lg_cmp (J67 93 17) v69) = 0 then (r = (some (.int 5), (zS I70 J71 tg72))) else (∃ (v73 : Int64) (I74 : Nat → Nat → Int32) (J75 : Nat → Nat → Int64) (tg76 : Option Nat), Runs (GW L xs) d 217 (0, [.int 99, .int 111, .int 108, .int 111, .int 117, .int 114], [], (zS I70 J71 tg72)) ((some (.long v73)), (zS I74 J75 tg76)) ∧ (if (lg_cmp (J71 93 17) v73) = 0 then (r = (some (.int 6), (zS I74 J75 tg76))) else (∃ (v77 : Int64) (I78 : Nat → Nat → Int32) (J79 : Nat → Nat → Int64) (tg80 : Option Nat), Runs (GW L xs) d 215 (0, [.int 109, .int 101, .int 97, .int 110, .int 115], [], (zS I74 J75 tg76)) ((some (.long v77)), (zS I78 J79 tg80)) ∧ (if (lg_cmp (J75 93 17) v77) = 0 then (r = (some (.int 7), (zS I78 J79 tg80))) else (∃ (v81 : Int64) (I82 : Nat → Nat → Int32) (J83 : Nat → Nat → Int64) (tg84 : Option Nat), Runs (GW L xs) d 216 (0, [.int 116, .int 111, .int 111, .int 107], [], (zS I78 J79 tg80)) ((some (.long v81)), (zS I82 J83 tg84)) ∧ (if (lg_cmp (J79 93 17) v81) = 0 then (r = (some (.int 8), (zS I82 J83 tg84))) else (∃ (v85 : Int64) (I86 : Nat → Nat → Int32) (J87 : Nat → Nat → Int64) (tg88 : Option Nat), Runs (GW L xs) d 217 (0, [.int 116, .int 117, .int 114, .int 110, .int 101, .int 100], [], (zS I82 J83 tg84)) ((some (.long v85)), (zS I86 J87 tg88)) ∧ (if (lg_cmp (J83 93 17) v85) = 0 then (r = (some (.int 9), (zS I86 J87 tg88))) else (∃ (v89 : Int64) (I90 : Nat → Nat → Int32) (J91 : Nat → Nat → Int64) (tg92 : Option Nat), Runs (GW L xs) d 216 (0, [.int 108, .int 97, .int 110, .int 100], [], (zS I86 J87 tg88)) ((some (.long v89)), (zS I90 J91 tg92)) ∧ (if (lg_cmp (J87 93 17) v89) = 0 then (r = (some (.int 10), (zS I90 J91 tg92))) else (∃ (v93 : Int64) (I94 : Nat → Nat → Int32) (J95 : Nat → Nat → Int64) (tg96 : Option Nat), Runs (GW L xs) d 216 (0, [.int 115, .int 105, .int 116, .int 101], [], (zS I90 J91 tg92)) ((some (.long v93)), (zS I94 J95 tg96)) ∧ (if (lg_cmp (J91 93 17) v93) = 0 then (r = (some (.int 11), (zS I94 J95 tg96))) else (r = (some (.int (-1)), (zS I94 J95 tg96))))))))))))))))))))))))))) else (r = (some (.int (-1)), (zS I J tg)))))) : Runs (GW L xs) (d + 1) 220 (0, [.ref 93], [], (zS I J tg)) r := by
  refine Runs.sN 3 (c' := (5, [.ref 93], [.int 2, .int (I 93 15)], (zS I J tg))) rfl ?_
  by_cases c97 : (I 93 15) = 2
  · rw [if_pos c97] at h
    refine Runs.brT (P := (I 93 15) = 2) (a := 10) (b := 8) (L := [.ref 93]) (S := []) (z := (zS I J tg)) rfl c97 ?_
    refine Runs.sN 7 (c' := (24, [.ref 93], [.int 115, .int 101, .int 110, .int 105, .int 108, .long (J 93 17)], (zS I J tg))) rfl ?_
    obtain ⟨v49, I50, J51, tg52, c98, h⟩ := h
    refine Runs.cl (cm := 215) (as := [.int 108, .int 105, .int 110, .int 101, .int 115]) (rest := [.long (J 93 17)]) (r1 := ((some (.long v49)), (zS I50 J51 tg52))) rfl (Nat.le_of_ble_eq_true rfl) c98 ?_
    refine Runs.as (c' := (27, [.ref 93], [.long v49, .long (J 93 17)], (zS I50 J51 tg52))) rfl ?_
    refine Runs.sN 1 (c' := (28, [.ref 93], [.int (lg_cmp (J 93 17) v49)], (zS I50 J51 tg52))) rfl ?_
    by_cases c99 : (lg_cmp (J 93 17) v49) = 0
    · rw [if_pos c99] at h
      refine Runs.brT (P := (lg_cmp (J 93 17) v49) = 0) (a := 31) (b := 33) (L := [.ref 93]) (S := []) (z := (zS I50 J51 tg52)) rfl c99 ?_
      refine Runs.sN 1 (c' := (32, [.ref 93], [.int 0], (zS I50 J51 tg52))) rfl ?_
      subst h
      exact Runs.rt rfl
    · rw [if_neg c99] at h
      refine Runs.brF (P := (lg_cmp (J 93 17) v49) = 0) (a := 31) (b := 33) (L := [.ref 93]) (S := []) (z := (zS I50 J51 tg52)) rfl c99 ?_
      refine Runs.sN 8 (c' := (49, [.ref 93], [.int 101, .int 108, .int 99, .int 114, .int 105, .int 99, .long (J51 93 17)], (zS I50 J51 tg52))) rfl ?_
      obtain ⟨v53, I54, J55, tg56, c100, h⟩ := h
      refine Runs.cl (cm := 217) (as := [.int 99, .int 105, .int 114, .int 99, .int 108, .int 101]) (rest := [.long (J51 93 17)]) (r1 := ((some (.long v53)), (zS I54 J55 tg56))) rfl (Nat.le_of_ble_eq_true rfl) c100 ?_
      refine Runs.as (c' := (52, [.ref 93], [.long v53, .long (J51 93 17)], (zS I54 J55 tg56))) rfl ?_
      refine Runs.sN 5 (c' := (60, [.ref 93], [.int (lg_cmp (J51 93 17) ((v53 <<< (Int32.toInt64 8 &&& 63)) ||| 115))], (zS I54 J55 tg56))) rfl ?_
      by_cases c101 : (lg_cmp (J51 93 17) ((v53 <<< (Int32.toInt64 8 &&& 63)) ||| 115)) = 0
      · rw [if_pos c101] at h
        refine Runs.brT (P := (lg_cmp (J51 93 17) ((v53 <<< (Int32.toInt64 8 &&& 63)) ||| 115)) = 0) (a := 63) (b := 65) (L := [.ref 93]) (S := []) (z := (zS I54 J55 tg56)) rfl c101 ?_
        refine Runs.sN 1 (c' := (64, [.ref 93], [.int 1], (zS I54 J55 tg56))) rfl ?_
        subst h
        exact Runs.rt rfl
      · rw [if_neg c101] at h
        refine Runs.brF (P := (lg_cmp (J51 93 17) ((v53 <<< (Int32.toInt64 8 &&& 63)) ||| 115)) = 0) (a := 63) (b := 65) (L := [.ref 93]) (S := []) (z := (zS I54 J55 tg56)) rfl c101 ?_
        refine Runs.sN 6 (c' := (77, [.ref 93], [.int 115, .int 114, .int 97, .int 98, .long (J55 93 17)], (zS I54 J55 tg56))) rfl ?_
        obtain ⟨v57, I58, J59, tg60, c102, h⟩ := h
        refine Runs.cl (cm := 216) (as := [.int 98, .int 97, .int 114, .int 115]) (rest := [.long (J55 93 17)]) (r1 := ((some (.long v57)), (zS I58 J59 tg60))) rfl (Nat.le_of_ble_eq_true rfl) c102 ?_
        refine Runs.as (c' := (80, [.ref 93], [.long v57, .long (J55 93 17)], (zS I58 J59 tg60))) rfl ?_
        refine Runs.sN 1 (c' := (81, [.ref 93], [.int (lg_cmp (J55 93 17) v57)], (zS I58 J59 tg60))) rfl ?_
        by_cases c103 : (lg_cmp (J55 93 17) v57) = 0
        · rw [if_pos c103] at h
          refine Runs.brT (P := (lg_cmp (J55 93 17) v57) = 0) (a := 84) (b := 86) (L := [.ref 93]) (S := []) (z := (zS I58 J59 tg60)) rfl c103 ?_
          refine Runs.sN 1 (c' := (85, [.ref 93], [.int 2], (zS I58 J59 tg60))) rfl ?_
          subst h
          exact Runs.rt rfl
        · rw [if_neg c103] at h
          refine Runs.brF (P := (lg_cmp (J55 93 17) v57) = 0) (a := 84) (b := 86) (L := [.ref 93]) (S := []) (z := (zS I58 J59 tg60)) rfl c103 ?_
          refine Runs.sN 8 (c' := (102, [.ref 93], [.int 115, .int 119, .int 111, .int 114, .int 114, .int 97, .long (J59 93 17)], (zS I58 J59 tg60))) rfl ?_
          obtain ⟨v61, I62, J63, tg64, c104, h⟩ := h
          refine Runs.cl (cm := 217) (as := [.int 97, .int 114, .int 114, .int 111, .int 119, .int 115]) (rest := [.long (J59 93 17)]) (r1 := ((some (.long v61)), (zS I62 J63 tg64))) rfl (Nat.le_of_ble_eq_true rfl) c104 ?_
          refine Runs.as (c' := (105, [.ref 93], [.long v61, .long (J59 93 17)], (zS I62 J63 tg64))) rfl ?_
          refine Runs.sN 1 (c' := (106, [.ref 93], [.int (lg_cmp (J59 93 17) v61)], (zS I62 J63 tg64))) rfl ?_
          by_cases c105 : (lg_cmp (J59 93 17) v61) = 0
          · rw [if_pos c105] at h
            refine Runs.brT (P := (lg_cmp (J59 93 17) v61) = 0) (a := 109) (b := 111) (L := [.ref 93]) (S := []) (z := (zS I62 J63 tg64)) rfl c105 ?_
            refine Runs.sN 1 (c' := (110, [.ref 93], [.int 3], (zS I62 J63 tg64))) rfl ?_
            subst h
            exact Runs.rt rfl
          · rw [if_neg c105] at h
            refine Runs.brF (P := (lg_cmp (J59 93 17) v61) = 0) (a := 109) (b := 111) (L := [.ref 93]) (S := []) (z := (zS I62 J63 tg64)) rfl c105 ?_
            refine Runs.sN 7 (c' := (125, [.ref 93], [.int 115, .int 108, .int 108, .int 105, .int 102, .long (J63 93 17)], (zS I62 J63 tg64))) rfl ?_
            obtain ⟨v65, I66, J67, tg68, c106, h⟩ := h
            refine Runs.cl (cm := 215) (as := [.int 102, .int 105, .int 108, .int 108, .int 115]) (rest := [.long (J63 93 17)]) (r1 := ((some (.long v65)), (zS I66 J67 tg68))) rfl (Nat.le_of_ble_eq_true rfl) c106 ?_
            refine Runs.as (c' := (128, [.ref 93], [.long v65, .long (J63 93 17)], (zS I66 J67 tg68))) rfl ?_
            refine Runs.sN 1 (c' := (129, [.ref 93], [.int (lg_cmp (J63 93 17) v65)], (zS I66 J67 tg68))) rfl ?_
            by_cases c107 : (lg_cmp (J63 93 17) v65) = 0
            · rw [if_pos c107] at h
              refine Runs.brT (P := (lg_cmp (J63 93 17) v65) = 0) (a := 132) (b := 134) (L := [.ref 93]) (S := []) (z := (zS I66 J67 tg68)) rfl c107 ?_
              refine Runs.sN 1 (c' := (133, [.ref 93], [.int 4], (zS I66 J67 tg68))) rfl ?_
              subst h
              exact Runs.rt rfl
            · rw [if_neg c107] at h
              refine Runs.brF (P := (lg_cmp (J63 93 17) v65) = 0) (a := 132) (b := 134) (L := [.ref 93]) (S := []) (z := (zS I66 J67 tg68)) rfl c107 ?_
              refine Runs.sN 7 (c' := (148, [.ref 93], [.int 115, .int 116, .int 114, .int 97, .int 112, .long (J67 93 17)], (zS I66 J67 tg68))) rfl ?_
              obtain ⟨v69, I70, J71, tg72, c108, h⟩ := h
              refine Runs.cl (cm := 215) (as := [.int 112, .int 97, .int 114, .int 116, .int 115]) (rest := [.long (J67 93 17)]) (r1 := ((some (.long v69)), (zS I70 J71 tg72))) rfl (Nat.le_of_ble_eq_true rfl) c108 ?_
              refine Runs.as (c' := (151, [.ref 93], [.long v69, .long (J67 93 17)], (zS I70 J71 tg72))) rfl ?_
              refine Runs.sN 1 (c' := (152, [.ref 93], [.int (lg_cmp (J67 93 17) v69)], (zS I70 J71 tg72))) rfl ?_
              by_cases c109 : (lg_cmp (J67 93 17) v69) = 0
              · rw [if_pos c109] at h
                refine Runs.brT (P := (lg_cmp (J67 93 17) v69) = 0) (a := 155) (b := 157) (L := [.ref 93]) (S := []) (z := (zS I70 J71 tg72)) rfl c109 ?_
                refine Runs.sN 1 (c' := (156, [.ref 93], [.int 5], (zS I70 J71 tg72))) rfl ?_
                subst h
                exact Runs.rt rfl
              · rw [if_neg c109] at h
                refine Runs.brF (P := (lg_cmp (J67 93 17) v69) = 0) (a := 155) (b := 157) (L := [.ref 93]) (S := []) (z := (zS I70 J71 tg72)) rfl c109 ?_
                refine Runs.sN 8 (c' := (173, [.ref 93], [.int 114, .int 117, .int 111, .int 108, .int 111, .int 99, .long (J71 93 17)], (zS I70 J71 tg72))) rfl ?_
                obtain ⟨v73, I74, J75, tg76, c110, h⟩ := h
                refine Runs.cl (cm := 217) (as := [.int 99, .int 111, .int 108, .int 111, .int 117, .int 114]) (rest := [.long (J71 93 17)]) (r1 := ((some (.long v73)), (zS I74 J75 tg76))) rfl (Nat.le_of_ble_eq_true rfl) c110 ?_
                refine Runs.as (c' := (176, [.ref 93], [.long v73, .long (J71 93 17)], (zS I74 J75 tg76))) rfl ?_
                refine Runs.sN 1 (c' := (177, [.ref 93], [.int (lg_cmp (J71 93 17) v73)], (zS I74 J75 tg76))) rfl ?_
                by_cases c111 : (lg_cmp (J71 93 17) v73) = 0
                · rw [if_pos c111] at h
                  refine Runs.brT (P := (lg_cmp (J71 93 17) v73) = 0) (a := 180) (b := 183) (L := [.ref 93]) (S := []) (z := (zS I74 J75 tg76)) rfl c111 ?_
                  refine Runs.sN 1 (c' := (182, [.ref 93], [.int 6], (zS I74 J75 tg76))) rfl ?_
                  subst h
                  exact Runs.rt rfl
                · rw [if_neg c111] at h
                  refine Runs.brF (P := (lg_cmp (J71 93 17) v73) = 0) (a := 180) (b := 183) (L := [.ref 93]) (S := []) (z := (zS I74 J75 tg76)) rfl c111 ?_
                  refine Runs.sN 7 (c' := (197, [.ref 93], [.int 115, .int 110, .int 97, .int 101, .int 109, .long (J75 93 17)], (zS I74 J75 tg76))) rfl ?_
                  obtain ⟨v77, I78, J79, tg80, c112, h⟩ := h
                  refine Runs.cl (cm := 215) (as := [.int 109, .int 101, .int 97, .int 110, .int 115]) (rest := [.long (J75 93 17)]) (r1 := ((some (.long v77)), (zS I78 J79 tg80))) rfl (Nat.le_of_ble_eq_true rfl) c112 ?_
                  refine Runs.as (c' := (200, [.ref 93], [.long v77, .long (J75 93 17)], (zS I78 J79 tg80))) rfl ?_
                  refine Runs.sN 1 (c' := (201, [.ref 93], [.int (lg_cmp (J75 93 17) v77)], (zS I78 J79 tg80))) rfl ?_
                  by_cases c113 : (lg_cmp (J75 93 17) v77) = 0
                  · rw [if_pos c113] at h
                    refine Runs.brT (P := (lg_cmp (J75 93 17) v77) = 0) (a := 204) (b := 207) (L := [.ref 93]) (S := []) (z := (zS I78 J79 tg80)) rfl c113 ?_
                    refine Runs.sN 1 (c' := (206, [.ref 93], [.int 7], (zS I78 J79 tg80))) rfl ?_
                    subst h
                    exact Runs.rt rfl
                  · rw [if_neg c113] at h
                    refine Runs.brF (P := (lg_cmp (J75 93 17) v77) = 0) (a := 204) (b := 207) (L := [.ref 93]) (S := []) (z := (zS I78 J79 tg80)) rfl c113 ?_
                    refine Runs.sN 6 (c' := (219, [.ref 93], [.int 107, .int 111, .int 111, .int 116, .long (J79 93 17)], (zS I78 J79 tg80))) rfl ?_
                    obtain ⟨v81, I82, J83, tg84, c114, h⟩ := h
                    refine Runs.cl (cm := 216) (as := [.int 116, .int 111, .int 111, .int 107]) (rest := [.long (J79 93 17)]) (r1 := ((some (.long v81)), (zS I82 J83 tg84))) rfl (Nat.le_of_ble_eq_true rfl) c114 ?_
                    refine Runs.as (c' := (222, [.ref 93], [.long v81, .long (J79 93 17)], (zS I82 J83 tg84))) rfl ?_
                    refine Runs.sN 1 (c' := (223, [.ref 93], [.int (lg_cmp (J79 93 17) v81)], (zS I82 J83 tg84))) rfl ?_
                    by_cases c115 : (lg_cmp (J79 93 17) v81) = 0
                    · rw [if_pos c115] at h
                      refine Runs.brT (P := (lg_cmp (J79 93 17) v81) = 0) (a := 226) (b := 229) (L := [.ref 93]) (S := []) (z := (zS I82 J83 tg84)) rfl c115 ?_
                      refine Runs.sN 1 (c' := (228, [.ref 93], [.int 8], (zS I82 J83 tg84))) rfl ?_
                      subst h
                      exact Runs.rt rfl
                    · rw [if_neg c115] at h
                      refine Runs.brF (P := (lg_cmp (J79 93 17) v81) = 0) (a := 226) (b := 229) (L := [.ref 93]) (S := []) (z := (zS I82 J83 tg84)) rfl c115 ?_
                      refine Runs.sN 8 (c' := (245, [.ref 93], [.int 100, .int 101, .int 110, .int 114, .int 117, .int 116, .long (J83 93 17)], (zS I82 J83 tg84))) rfl ?_
                      obtain ⟨v85, I86, J87, tg88, c116, h⟩ := h
                      refine Runs.cl (cm := 217) (as := [.int 116, .int 117, .int 114, .int 110, .int 101, .int 100]) (rest := [.long (J83 93 17)]) (r1 := ((some (.long v85)), (zS I86 J87 tg88))) rfl (Nat.le_of_ble_eq_true rfl) c116 ?_
                      refine Runs.as (c' := (248, [.ref 93], [.long v85, .long (J83 93 17)], (zS I86 J87 tg88))) rfl ?_
                      refine Runs.sN 1 (c' := (249, [.ref 93], [.int (lg_cmp (J83 93 17) v85)], (zS I86 J87 tg88))) rfl ?_
                      by_cases c117 : (lg_cmp (J83 93 17) v85) = 0
                      · rw [if_pos c117] at h
                        refine Runs.brT (P := (lg_cmp (J83 93 17) v85) = 0) (a := 252) (b := 255) (L := [.ref 93]) (S := []) (z := (zS I86 J87 tg88)) rfl c117 ?_
                        refine Runs.sN 1 (c' := (254, [.ref 93], [.int 9], (zS I86 J87 tg88))) rfl ?_
                        subst h
                        exact Runs.rt rfl
                      · rw [if_neg c117] at h
                        refine Runs.brF (P := (lg_cmp (J83 93 17) v85) = 0) (a := 252) (b := 255) (L := [.ref 93]) (S := []) (z := (zS I86 J87 tg88)) rfl c117 ?_
                        refine Runs.sN 6 (c' := (267, [.ref 93], [.int 100, .int 110, .int 97, .int 108, .long (J87 93 17)], (zS I86 J87 tg88))) rfl ?_
                        obtain ⟨v89, I90, J91, tg92, c118, h⟩ := h
                        refine Runs.cl (cm := 216) (as := [.int 108, .int 97, .int 110, .int 100]) (rest := [.long (J87 93 17)]) (r1 := ((some (.long v89)), (zS I90 J91 tg92))) rfl (Nat.le_of_ble_eq_true rfl) c118 ?_
                        refine Runs.as (c' := (270, [.ref 93], [.long v89, .long (J87 93 17)], (zS I90 J91 tg92))) rfl ?_
                        refine Runs.sN 1 (c' := (271, [.ref 93], [.int (lg_cmp (J87 93 17) v89)], (zS I90 J91 tg92))) rfl ?_
                        by_cases c119 : (lg_cmp (J87 93 17) v89) = 0
                        · rw [if_pos c119] at h
                          refine Runs.brT (P := (lg_cmp (J87 93 17) v89) = 0) (a := 274) (b := 279) (L := [.ref 93]) (S := []) (z := (zS I90 J91 tg92)) rfl c119 ?_
                          refine Runs.sN 2 (c' := (304, [.ref 93], [.int 10], (zS I90 J91 tg92))) rfl ?_
                          subst h
                          exact Runs.rt rfl
                        · rw [if_neg c119] at h
                          refine Runs.brF (P := (lg_cmp (J87 93 17) v89) = 0) (a := 274) (b := 279) (L := [.ref 93]) (S := []) (z := (zS I90 J91 tg92)) rfl c119 ?_
                          refine Runs.sN 6 (c' := (291, [.ref 93], [.int 101, .int 116, .int 105, .int 115, .long (J91 93 17)], (zS I90 J91 tg92))) rfl ?_
                          obtain ⟨v93, I94, J95, tg96, c120, h⟩ := h
                          refine Runs.cl (cm := 216) (as := [.int 115, .int 105, .int 116, .int 101]) (rest := [.long (J91 93 17)]) (r1 := ((some (.long v93)), (zS I94 J95 tg96))) rfl (Nat.le_of_ble_eq_true rfl) c120 ?_
                          refine Runs.as (c' := (294, [.ref 93], [.long v93, .long (J91 93 17)], (zS I94 J95 tg96))) rfl ?_
                          refine Runs.sN 1 (c' := (295, [.ref 93], [.int (lg_cmp (J91 93 17) v93)], (zS I94 J95 tg96))) rfl ?_
                          by_cases c121 : (lg_cmp (J91 93 17) v93) = 0
                          · rw [if_pos c121] at h
                            refine Runs.brT (P := (lg_cmp (J91 93 17) v93) = 0) (a := 298) (b := 303) (L := [.ref 93]) (S := []) (z := (zS I94 J95 tg96)) rfl c121 ?_
                            refine Runs.sN 2 (c' := (304, [.ref 93], [.int 11], (zS I94 J95 tg96))) rfl ?_
                            subst h
                            exact Runs.rt rfl
                          · rw [if_neg c121] at h
                            refine Runs.brF (P := (lg_cmp (J91 93 17) v93) = 0) (a := 298) (b := 303) (L := [.ref 93]) (S := []) (z := (zS I94 J95 tg96)) rfl c121 ?_
                            refine Runs.sN 1 (c' := (304, [.ref 93], [.int (-1)], (zS I94 J95 tg96))) rfl ?_
                            subst h
                            exact Runs.rt rfl
  · rw [if_neg c97] at h
    refine Runs.brF (P := (I 93 15) = 2) (a := 10) (b := 8) (L := [.ref 93]) (S := []) (z := (zS I J tg)) rfl c97 ?_
    refine Runs.sN 1 (c' := (9, [.ref 93], [.int (-1)], (zS I J tg))) rfl ?_
    subst h
    exact Runs.rt rfl
-- X12_push 
theorem sg_221 {L d : Nat} {xs : Nat → Int32} (I : Nat → Nat → Int32) (J : Nat → Nat → Int64) (tg : Option Nat) (a1 : Int32) {r : Option Value × SS} (h : (¬ ((I 93 23) < 0 ∨ 160 ≤ (I 93 23).toNatClampNeg) ∧ r = (none, (zS (up2 (up2 I 102 ((I 93 23).toNatClampNeg) a1) 93 23 ((I 93 23) + 1)) J tg)))) : Runs (GW L xs) d 221 (0, [.ref 93, .int a1], [], (zS I J tg)) r := by
  refine Runs.sN 5 (c' := (9, [.ref 93, .int a1], [.int a1, .int (I 93 23), .ref 102], (zS I J tg))) rfl ?_
  obtain ⟨c1, h⟩ := h
  refine Runs.to (c' := (10, [.ref 93, .int a1], [], (zS (up2 I 102 ((I 93 23).toNatClampNeg) a1) J tg))) (Runs.ist rfl (show (102 : Nat) < 114 by decide) rfl c1) ?_
  refine Runs.sN 6 (c' := (20, [.ref 93, .int a1], [], (zS (up2 (up2 I 102 ((I 93 23).toNatClampNeg) a1) 93 23 ((I 93 23) + 1)) J tg))) rfl ?_
  subst h
  exact Runs.rt rfl
-- X12_settle 
theorem sg_222 {L d : Nat} {xs : Nat → Int32} (I : Nat → Nat → Int32) (J : Nat → Nat → Int64) (tg : Option Nat) (a1 : Int32) {r : Option Value × SS} (h : ((if (I 93 23) ≤ 0 then (r = (none, (zS I J tg))) else (¬ (((I 93 23) - 1) < 0 ∨ 160 ≤ ((I 93 23) - 1).toNatClampNeg) ∧ (if (I 102 (((I 93 23) - 1).toNatClampNeg)) < a1 then (r = (none, (zS I J tg))) else (¬ (((I 93 23) - 1) < 0 ∨ 160 ≤ ((I 93 23) - 1).toNatClampNeg) ∧ ∃ (I10 : Nat → Nat → Int32) (J11 : Nat → Nat → Int64) (tg12 : Option Nat), Runs (GW L xs) d 219 (0, [.ref 93, .int (I 102 (((I 93 23) - 1).toNatClampNeg)), .int 0], [], (zS (up2 I 93 23 ((I 93 23) - 1)) J tg)) (none, (zS I10 J11 tg12)) ∧ Runs (GW L xs) (d + 1) 222 (0, [.ref 93, .int a1], [], (zS I10 J11 tg12)) r)))))) : Runs (GW L xs) (d + 1) 222 (0, [.ref 93, .int a1], [], (zS I J tg)) r := by
  refine Runs.sN 2 (c' := (4, [.ref 93, .int a1], [.int (I 93 23)], (zS I J tg))) rfl ?_
  by_cases c13 : (I 93 23) ≤ 0
  · rw [if_pos c13] at h
    refine Runs.brT (P := (I 93 23) ≤ 0) (a := 49) (b := 7) (L := [.ref 93, .int a1]) (S := []) (z := (zS I J tg)) rfl c13 ?_
    subst h
    exact Runs.rt rfl
  · rw [if_neg c13] at h
    refine Runs.brF (P := (I 93 23) ≤ 0) (a := 49) (b := 7) (L := [.ref 93, .int a1]) (S := []) (z := (zS I J tg)) rfl c13 ?_
    refine Runs.sN 6 (c' := (17, [.ref 93, .int a1], [.int ((I 93 23) - 1), .ref 102], (zS I J tg))) rfl ?_
    obtain ⟨c14, h⟩ := h
    refine Runs.to (c' := (18, [.ref 93, .int a1], [.int (I 102 (((I 93 23) - 1).toNatClampNeg))], (zS I J tg))) (Runs.ild rfl (show (102 : Nat) < 114 by decide) rfl c14) ?_
    refine Runs.sN 1 (c' := (19, [.ref 93, .int a1], [.int a1, .int (I 102 (((I 93 23) - 1).toNatClampNeg))], (zS I J tg))) rfl ?_
    by_cases c15 : (I 102 (((I 93 23) - 1).toNatClampNeg)) < a1
    · rw [if_pos c15] at h
      refine Runs.brT (P := (I 102 (((I 93 23) - 1).toNatClampNeg)) < a1) (a := 49) (b := 22) (L := [.ref 93, .int a1]) (S := []) (z := (zS I J tg)) rfl c15 ?_
      subst h
      exact Runs.rt rfl
    · rw [if_neg c15] at h
      refine Runs.brF (P := (I 102 (((I 93 23) - 1).toNatClampNeg)) < a1) (a := 49) (b := 22) (L := [.ref 93, .int a1]) (S := []) (z := (zS I J tg)) rfl c15 ?_
      refine Runs.sN 11 (c' := (41, [.ref 93, .int a1], [.int ((I 93 23) - 1), .ref 102, .ref 93], (zS (up2 I 93 23 ((I 93 23) - 1)) J tg))) rfl ?_
      obtain ⟨c16, h⟩ := h
      refine Runs.to (c' := (42, [.ref 93, .int a1], [.int (I 102 (((I 93 23) - 1).toNatClampNeg)), .ref 93], (zS (up2 I 93 23 ((I 93 23) - 1)) J tg))) (Runs.ild rfl (show (102 : Nat) < 114 by decide) rfl c16) ?_
      refine Runs.sN 1 (c' := (43, [.ref 93, .int a1], [.int 0, .int (I 102 (((I 93 23) - 1).toNatClampNeg)), .ref 93], (zS (up2 I 93 23 ((I 93 23) - 1)) J tg))) rfl ?_
      obtain ⟨I10, J11, tg12, c17, h⟩ := h
      refine Runs.cl (cm := 219) (as := [.ref 93, .int (I 102 (((I 93 23) - 1).toNatClampNeg)), .int 0]) (rest := []) (r1 := (none, (zS I10 J11 tg12))) rfl (Nat.le_of_ble_eq_true rfl) c17 ?_
      refine Runs.as (c' := (46, [.ref 93, .int a1], [], (zS I10 J11 tg12))) rfl ?_
      refine Runs.sN 1 (c' := (0, [.ref 93, .int a1], [], (zS I10 J11 tg12))) rfl ?_
      exact h
theorem sg_222_0 {L d : Nat} {xs : Nat → Int32} (I : Nat → Nat → Int32) (J : Nat → Nat → Int64) (tg : Option Nat) (x1 : Int32) {r : Option Value × SS} (h : ((if (I 93 23) ≤ 0 then (r = (none, (zS I J tg))) else (¬ (((I 93 23) - 1) < 0 ∨ 160 ≤ ((I 93 23) - 1).toNatClampNeg) ∧ (if (I 102 (((I 93 23) - 1).toNatClampNeg)) < x1 then (r = (none, (zS I J tg))) else (¬ (((I 93 23) - 1) < 0 ∨ 160 ≤ ((I 93 23) - 1).toNatClampNeg) ∧ ∃ (I1 : Nat → Nat → Int32) (J2 : Nat → Nat → Int64) (tg3 : Option Nat), Runs (GW L xs) d 219 (0, [.ref 93, .int (I 102 (((I 93 23) - 1).toNatClampNeg)), .int 0], [], (zS (up2 I 93 23 ((I 93 23) - 1)) J tg)) (none, (zS I1 J2 tg3)) ∧ Runs (GW L xs) (d + 1) 222 (0, [.ref 93, .int x1], [], (zS I1 J2 tg3)) r)))))) : Runs (GW L xs) (d + 1) 222 (0, [.ref 93, .int x1], [], (zS I J tg)) r := by
  refine Runs.sN 2 (c' := (4, [.ref 93, .int x1], [.int (I 93 23)], (zS I J tg))) rfl ?_
  by_cases c4 : (I 93 23) ≤ 0
  · rw [if_pos c4] at h
    refine Runs.brT (P := (I 93 23) ≤ 0) (a := 49) (b := 7) (L := [.ref 93, .int x1]) (S := []) (z := (zS I J tg)) rfl c4 ?_
    subst h
    exact Runs.rt rfl
  · rw [if_neg c4] at h
    refine Runs.brF (P := (I 93 23) ≤ 0) (a := 49) (b := 7) (L := [.ref 93, .int x1]) (S := []) (z := (zS I J tg)) rfl c4 ?_
    refine Runs.sN 6 (c' := (17, [.ref 93, .int x1], [.int ((I 93 23) - 1), .ref 102], (zS I J tg))) rfl ?_
    obtain ⟨c5, h⟩ := h
    refine Runs.to (c' := (18, [.ref 93, .int x1], [.int (I 102 (((I 93 23) - 1).toNatClampNeg))], (zS I J tg))) (Runs.ild rfl (show (102 : Nat) < 114 by decide) rfl c5) ?_
    refine Runs.sN 1 (c' := (19, [.ref 93, .int x1], [.int x1, .int (I 102 (((I 93 23) - 1).toNatClampNeg))], (zS I J tg))) rfl ?_
    by_cases c6 : (I 102 (((I 93 23) - 1).toNatClampNeg)) < x1
    · rw [if_pos c6] at h
      refine Runs.brT (P := (I 102 (((I 93 23) - 1).toNatClampNeg)) < x1) (a := 49) (b := 22) (L := [.ref 93, .int x1]) (S := []) (z := (zS I J tg)) rfl c6 ?_
      subst h
      exact Runs.rt rfl
    · rw [if_neg c6] at h
      refine Runs.brF (P := (I 102 (((I 93 23) - 1).toNatClampNeg)) < x1) (a := 49) (b := 22) (L := [.ref 93, .int x1]) (S := []) (z := (zS I J tg)) rfl c6 ?_
      refine Runs.sN 11 (c' := (41, [.ref 93, .int x1], [.int ((I 93 23) - 1), .ref 102, .ref 93], (zS (up2 I 93 23 ((I 93 23) - 1)) J tg))) rfl ?_
      obtain ⟨c7, h⟩ := h
      refine Runs.to (c' := (42, [.ref 93, .int x1], [.int (I 102 (((I 93 23) - 1).toNatClampNeg)), .ref 93], (zS (up2 I 93 23 ((I 93 23) - 1)) J tg))) (Runs.ild rfl (show (102 : Nat) < 114 by decide) rfl c7) ?_
      refine Runs.sN 1 (c' := (43, [.ref 93, .int x1], [.int 0, .int (I 102 (((I 93 23) - 1).toNatClampNeg)), .ref 93], (zS (up2 I 93 23 ((I 93 23) - 1)) J tg))) rfl ?_
      obtain ⟨I1, J2, tg3, c8, h⟩ := h
      refine Runs.cl (cm := 219) (as := [.ref 93, .int (I 102 (((I 93 23) - 1).toNatClampNeg)), .int 0]) (rest := []) (r1 := (none, (zS I1 J2 tg3))) rfl (Nat.le_of_ble_eq_true rfl) c8 ?_
      refine Runs.as (c' := (46, [.ref 93, .int x1], [], (zS I1 J2 tg3))) rfl ?_
      refine Runs.sN 1 (c' := (0, [.ref 93, .int x1], [], (zS I1 J2 tg3))) rfl ?_
      exact h
-- X12_beginOne 
theorem sg_223 {L d : Nat} {xs : Nat → Int32} (I : Nat → Nat → Int32) (J : Nat → Nat → Int64) (tg : Option Nat) {r : Option Value × SS} (h : ((if (I 93 15) = 45 then ((if (I 93 24) = 8 then (r = (some (.int 3), (zS I J tg))) else (∃ (I60 : Nat → Nat → Int32) (J61 : Nat → Nat → Int64) (tg62 : Option Nat), Runs (GW L xs) d 221 (0, [.ref 93, .int 2], [], (zS (up2 I 93 24 ((I 93 24) + 1)) J tg)) (none, (zS I60 J61 tg62)) ∧ ∃ (I63 : Nat → Nat → Int32) (J64 : Nat → Nat → Int64) (tg65 : Option Nat), Runs (GW L xs) d 213 (0, [.ref 93, vU, vU], [], (zS I60 J61 tg62)) (none, (zS I63 J64 tg65)) ∧ r = (some (.int 0), (zS I63 J64 tg65))))) else ((if (I 93 15) = 1 then ((if (I 93 16) ≤ 9999 then (∃ (I66 : Nat → Nat → Int32) (J67 : Nat → Nat → Int64) (tg68 : Option Nat), Runs (GW L xs) d 219 (0, [.ref 93, .int 0, .int (I 93 16)], [], (zS I J tg)) (none, (zS I66 J67 tg68)) ∧ ∃ (I69 : Nat → Nat → Int32) (J70 : Nat → Nat → Int64) (tg71 : Option Nat), Runs (GW L xs) d 213 (0, [.ref 93, vU, vU], [], (zS I66 J67 tg68)) (none, (zS I69 J70 tg71)) ∧ Runs (GW L xs) (d + 1) 223 (115, [.ref 93, vU], [], (zS (up2 I69 93 25 1) J70 tg71)) r) else (r = (some (.int 2), (zS I J tg))))) else (∃ (v72 : Int32) (I73 : Nat → Nat → Int32) (J74 : Nat → Nat → Int64) (tg75 : Option Nat), Runs (GW L xs) d 220 (0, [.ref 93], [], (zS I J tg)) ((some (.int v72)), (zS I73 J74 tg75)) ∧ (if 0 ≤ v72 then ((if v72 ≤ 7 then (∃ (I76 : Nat → Nat → Int32) (J77 : Nat → Nat → Int64) (tg78 : Option Nat), Runs (GW L xs) d 219 (0, [.ref 93, .int 1, .int v72], [], (zS I73 J74 tg75)) (none, (zS I76 J77 tg78)) ∧ ∃ (I79 : Nat → Nat → Int32) (J80 : Nat → Nat → Int64) (tg81 : Option Nat), Runs (GW L xs) d 213 (0, [.ref 93, vU, vU], [], (zS I76 J77 tg78)) (none, (zS I79 J80 tg81)) ∧ Runs (GW L xs) (d + 1) 223 (115, [.ref 93, vU], [], (zS (up2 I79 93 25 1) J80 tg81)) r) else ((if (I73 93 8) = 3 then (∃ (I82 : Nat → Nat → Int32) (J83 : Nat → Nat → Int64) (tg84 : Option Nat), Runs (GW L xs) d 219 (0, [.ref 93, .int 1, .int v72], [], (zS I73 J74 tg75)) (none, (zS I82 J83 tg84)) ∧ ∃ (I85 : Nat → Nat → Int32) (J86 : Nat → Nat → Int64) (tg87 : Option Nat), Runs (GW L xs) d 213 (0, [.ref 93, vU, vU], [], (zS I82 J83 tg84)) (none, (zS I85 J86 tg87)) ∧ Runs (GW L xs) (d + 1) 223 (115, [.ref 93, vU], [], (zS (up2 I85 93 25 1) J86 tg87)) r) else (r = (some (.int 5), (zS I73 J74 tg75))))))) else (r = (some (.int 1), (zS I73 J74 tg75)))))))))) : Runs (GW L xs) (d + 1) 223 (0, [.ref 93, vU], [], (zS I J tg)) r := by
  refine Runs.sN 3 (c' := (6, [.ref 93, vU], [.int 45, .int (I 93 15)], (zS I J tg))) rfl ?_
  by_cases c88 : (I 93 15) = 45
  · rw [if_pos c88] at h
    refine Runs.brT (P := (I 93 15) = 45) (a := 9) (b := 41) (L := [.ref 93, vU]) (S := []) (z := (zS I J tg)) rfl c88 ?_
    refine Runs.sN 3 (c' := (15, [.ref 93, vU], [.int 8, .int (I 93 24)], (zS I J tg))) rfl ?_
    by_cases c89 : (I 93 24) = 8
    · rw [if_pos c89] at h
      refine Runs.brT (P := (I 93 24) = 8) (a := 18) (b := 20) (L := [.ref 93, vU]) (S := []) (z := (zS I J tg)) rfl c89 ?_
      refine Runs.sN 1 (c' := (19, [.ref 93, vU], [.int 3], (zS I J tg))) rfl ?_
      subst h
      exact Runs.rt rfl
    · rw [if_neg c89] at h
      refine Runs.brF (P := (I 93 24) = 8) (a := 18) (b := 20) (L := [.ref 93, vU]) (S := []) (z := (zS I J tg)) rfl c89 ?_
      refine Runs.sN 8 (c' := (32, [.ref 93, vU], [.int 2, .ref 93], (zS (up2 I 93 24 ((I 93 24) + 1)) J tg))) rfl ?_
      obtain ⟨I60, J61, tg62, c90, h⟩ := h
      refine Runs.cl (cm := 221) (as := [.ref 93, .int 2]) (rest := []) (r1 := (none, (zS I60 J61 tg62))) rfl (Nat.le_of_ble_eq_true rfl) c90 ?_
      refine Runs.as (c' := (35, [.ref 93, vU], [], (zS I60 J61 tg62))) rfl ?_
      refine Runs.sN 1 (c' := (36, [.ref 93, vU], [.ref 93], (zS I60 J61 tg62))) rfl ?_
      obtain ⟨I63, J64, tg65, c91, h⟩ := h
      refine Runs.cl (cm := 213) (as := [.ref 93]) (rest := []) (r1 := (none, (zS I63 J64 tg65))) rfl (Nat.le_of_ble_eq_true rfl) c91 ?_
      refine Runs.as (c' := (39, [.ref 93, vU], [], (zS I63 J64 tg65))) rfl ?_
      refine Runs.sN 1 (c' := (40, [.ref 93, vU], [.int 0], (zS I63 J64 tg65))) rfl ?_
      subst h
      exact Runs.rt rfl
  · rw [if_neg c88] at h
    refine Runs.brF (P := (I 93 15) = 45) (a := 9) (b := 41) (L := [.ref 93, vU]) (S := []) (z := (zS I J tg)) rfl c88 ?_
    refine Runs.sN 3 (c' := (46, [.ref 93, vU], [.int 1, .int (I 93 15)], (zS I J tg))) rfl ?_
    by_cases c92 : (I 93 15) = 1
    · rw [if_pos c92] at h
      refine Runs.brT (P := (I 93 15) = 1) (a := 49) (b := 73) (L := [.ref 93, vU]) (S := []) (z := (zS I J tg)) rfl c92 ?_
      refine Runs.sN 3 (c' := (56, [.ref 93, vU], [.int 9999, .int (I 93 16)], (zS I J tg))) rfl ?_
      by_cases c93 : (I 93 16) ≤ 9999
      · rw [if_pos c93] at h
        refine Runs.brT (P := (I 93 16) ≤ 9999) (a := 61) (b := 59) (L := [.ref 93, vU]) (S := []) (z := (zS I J tg)) rfl c93 ?_
        refine Runs.sN 4 (c' := (67, [.ref 93, vU], [.int (I 93 16), .int 0, .ref 93], (zS I J tg))) rfl ?_
        obtain ⟨I66, J67, tg68, c94, h⟩ := h
        refine Runs.cl (cm := 219) (as := [.ref 93, .int 0, .int (I 93 16)]) (rest := []) (r1 := (none, (zS I66 J67 tg68))) rfl (Nat.le_of_ble_eq_true rfl) c94 ?_
        refine Runs.as (c' := (70, [.ref 93, vU], [], (zS I66 J67 tg68))) rfl ?_
        refine Runs.sN 2 (c' := (107, [.ref 93, vU], [.ref 93], (zS I66 J67 tg68))) rfl ?_
        obtain ⟨I69, J70, tg71, c95, h⟩ := h
        refine Runs.cl (cm := 213) (as := [.ref 93]) (rest := []) (r1 := (none, (zS I69 J70 tg71))) rfl (Nat.le_of_ble_eq_true rfl) c95 ?_
        refine Runs.as (c' := (110, [.ref 93, vU], [], (zS I69 J70 tg71))) rfl ?_
        refine Runs.sN 3 (c' := (115, [.ref 93, vU], [], (zS (up2 I69 93 25 1) J70 tg71))) rfl ?_
        exact h
      · rw [if_neg c93] at h
        refine Runs.brF (P := (I 93 16) ≤ 9999) (a := 61) (b := 59) (L := [.ref 93, vU]) (S := []) (z := (zS I J tg)) rfl c93 ?_
        refine Runs.sN 1 (c' := (60, [.ref 93, vU], [.int 2], (zS I J tg))) rfl ?_
        subst h
        exact Runs.rt rfl
    · rw [if_neg c92] at h
      refine Runs.brF (P := (I 93 15) = 1) (a := 49) (b := 73) (L := [.ref 93, vU]) (S := []) (z := (zS I J tg)) rfl c92 ?_
      refine Runs.sN 1 (c' := (74, [.ref 93, vU], [.ref 93], (zS I J tg))) rfl ?_
      obtain ⟨v72, I73, J74, tg75, c96, h⟩ := h
      refine Runs.cl (cm := 220) (as := [.ref 93]) (rest := []) (r1 := ((some (.int v72)), (zS I73 J74 tg75))) rfl (Nat.le_of_ble_eq_true rfl) c96 ?_
      refine Runs.as (c' := (77, [.ref 93, vU], [.int v72], (zS I73 J74 tg75))) rfl ?_
      refine Runs.sN 2 (c' := (79, [.ref 93, .int v72], [.int v72], (zS I73 J74 tg75))) rfl ?_
      by_cases c97 : 0 ≤ v72
      · rw [if_pos c97] at h
        refine Runs.brT (P := 0 ≤ v72) (a := 84) (b := 82) (L := [.ref 93, .int v72]) (S := []) (z := (zS I73 J74 tg75)) rfl c97 ?_
        refine Runs.sN 2 (c' := (87, [.ref 93, .int v72], [.int 7, .int v72], (zS I73 J74 tg75))) rfl ?_
        by_cases c98 : v72 ≤ 7
        · rw [if_pos c98] at h
          refine Runs.brT (P := v72 ≤ 7) (a := 100) (b := 90) (L := [.ref 93, .int v72]) (S := []) (z := (zS I73 J74 tg75)) rfl c98 ?_
          refine Runs.sN 3 (c' := (103, [.ref 93, .int v72], [.int v72, .int 1, .ref 93], (zS I73 J74 tg75))) rfl ?_
          obtain ⟨I76, J77, tg78, c99, h⟩ := h
          refine Runs.cl (cm := 219) (as := [.ref 93, .int 1, .int v72]) (rest := []) (r1 := (none, (zS I76 J77 tg78))) rfl (Nat.le_of_ble_eq_true rfl) c99 ?_
          refine Runs.as (c' := (106, [.ref 93, .int v72], [], (zS I76 J77 tg78))) rfl ?_
          refine Runs.sN 1 (c' := (107, [.ref 93, .int v72], [.ref 93], (zS I76 J77 tg78))) rfl ?_
          obtain ⟨I79, J80, tg81, c100, h⟩ := h
          refine Runs.cl (cm := 213) (as := [.ref 93]) (rest := []) (r1 := (none, (zS I79 J80 tg81))) rfl (Nat.le_of_ble_eq_true rfl) c100 ?_
          refine Runs.as (c' := (110, [.ref 93, .int v72], [], (zS I79 J80 tg81))) rfl ?_
          refine Runs.sN 3 (c' := (115, [.ref 93, .int v72], [], (zS (up2 I79 93 25 1) J80 tg81))) rfl ?_
          exact Runs.weak (L := [.ref 93, vU]) (Lle.k (Lle.u Lle.n)) h
        · rw [if_neg c98] at h
          refine Runs.brF (P := v72 ≤ 7) (a := 100) (b := 90) (L := [.ref 93, .int v72]) (S := []) (z := (zS I73 J74 tg75)) rfl c98 ?_
          refine Runs.sN 3 (c' := (95, [.ref 93, .int v72], [.int 3, .int (I73 93 8)], (zS I73 J74 tg75))) rfl ?_
          by_cases c101 : (I73 93 8) = 3
          · rw [if_pos c101] at h
            refine Runs.brT (P := (I73 93 8) = 3) (a := 100) (b := 98) (L := [.ref 93, .int v72]) (S := []) (z := (zS I73 J74 tg75)) rfl c101 ?_
            refine Runs.sN 3 (c' := (103, [.ref 93, .int v72], [.int v72, .int 1, .ref 93], (zS I73 J74 tg75))) rfl ?_
            obtain ⟨I82, J83, tg84, c102, h⟩ := h
            refine Runs.cl (cm := 219) (as := [.ref 93, .int 1, .int v72]) (rest := []) (r1 := (none, (zS I82 J83 tg84))) rfl (Nat.le_of_ble_eq_true rfl) c102 ?_
            refine Runs.as (c' := (106, [.ref 93, .int v72], [], (zS I82 J83 tg84))) rfl ?_
            refine Runs.sN 1 (c' := (107, [.ref 93, .int v72], [.ref 93], (zS I82 J83 tg84))) rfl ?_
            obtain ⟨I85, J86, tg87, c103, h⟩ := h
            refine Runs.cl (cm := 213) (as := [.ref 93]) (rest := []) (r1 := (none, (zS I85 J86 tg87))) rfl (Nat.le_of_ble_eq_true rfl) c103 ?_
            refine Runs.as (c' := (110, [.ref 93, .int v72], [], (zS I85 J86 tg87))) rfl ?_
            refine Runs.sN 3 (c' := (115, [.ref 93, .int v72], [], (zS (up2 I85 93 25 1) J86 tg87))) rfl ?_
            exact Runs.weak (L := [.ref 93, vU]) (Lle.k (Lle.u Lle.n)) h
          · rw [if_neg c101] at h
            refine Runs.brF (P := (I73 93 8) = 3) (a := 100) (b := 98) (L := [.ref 93, .int v72]) (S := []) (z := (zS I73 J74 tg75)) rfl c101 ?_
            refine Runs.sN 1 (c' := (99, [.ref 93, .int v72], [.int 5], (zS I73 J74 tg75))) rfl ?_
            subst h
            exact Runs.rt rfl
      · rw [if_neg c97] at h
        refine Runs.brF (P := 0 ≤ v72) (a := 84) (b := 82) (L := [.ref 93, .int v72]) (S := []) (z := (zS I73 J74 tg75)) rfl c97 ?_
        refine Runs.sN 1 (c' := (83, [.ref 93, .int v72], [.int 1], (zS I73 J74 tg75))) rfl ?_
        subst h
        exact Runs.rt rfl
theorem sg_223_115 {L d : Nat} {xs : Nat → Int32} (I : Nat → Nat → Int32) (J : Nat → Nat → Int64) (tg : Option Nat) {r : Option Value × SS} (h : ((if (I 93 23) ≤ 0 then (r = (some (.int 0), (zS I J tg))) else (¬ (((I 93 23) - 1) < 0 ∨ 160 ≤ ((I 93 23) - 1).toNatClampNeg) ∧ (if (I 102 (((I 93 23) - 1).toNatClampNeg)) = 2 then (∃ (I1 : Nat → Nat → Int32) (J2 : Nat → Nat → Int64) (tg3 : Option Nat), Runs (GW L xs) d 219 (0, [.ref 93, .int 2, .int 0], [], (zS (up2 (up2 I 93 23 ((I 93 23) - 1)) 93 24 ((I 93 24) - 1)) J tg)) (none, (zS I1 J2 tg3)) ∧ Runs (GW L xs) (d + 1) 223 (115, [.ref 93, vU], [], (zS I1 J2 tg3)) r) else (r = (some (.int 0), (zS I J tg)))))))) : Runs (GW L xs) (d + 1) 223 (115, [.ref 93, vU], [], (zS I J tg)) r := by
  refine Runs.sN 2 (c' := (119, [.ref 93, vU], [.int (I 93 23)], (zS I J tg))) rfl ?_
  by_cases c4 : (I 93 23) ≤ 0
  · rw [if_pos c4] at h
    refine Runs.brT (P := (I 93 23) ≤ 0) (a := 166) (b := 122) (L := [.ref 93, vU]) (S := []) (z := (zS I J tg)) rfl c4 ?_
    refine Runs.sN 1 (c' := (167, [.ref 93, vU], [.int 0], (zS I J tg))) rfl ?_
    subst h
    exact Runs.rt rfl
  · rw [if_neg c4] at h
    refine Runs.brF (P := (I 93 23) ≤ 0) (a := 166) (b := 122) (L := [.ref 93, vU]) (S := []) (z := (zS I J tg)) rfl c4 ?_
    refine Runs.sN 6 (c' := (132, [.ref 93, vU], [.int ((I 93 23) - 1), .ref 102], (zS I J tg))) rfl ?_
    obtain ⟨c5, h⟩ := h
    refine Runs.to (c' := (133, [.ref 93, vU], [.int (I 102 (((I 93 23) - 1).toNatClampNeg))], (zS I J tg))) (Runs.ild rfl (show (102 : Nat) < 114 by decide) rfl c5) ?_
    refine Runs.sN 1 (c' := (134, [.ref 93, vU], [.int 2, .int (I 102 (((I 93 23) - 1).toNatClampNeg))], (zS I J tg))) rfl ?_
    by_cases c6 : (I 102 (((I 93 23) - 1).toNatClampNeg)) = 2
    · rw [if_pos c6] at h
      refine Runs.brT (P := (I 102 (((I 93 23) - 1).toNatClampNeg)) = 2) (a := 137) (b := 166) (L := [.ref 93, vU]) (S := []) (z := (zS I J tg)) rfl c6 ?_
      refine Runs.sN 15 (c' := (160, [.ref 93, vU], [.int 0, .int 2, .ref 93], (zS (up2 (up2 I 93 23 ((I 93 23) - 1)) 93 24 ((I 93 24) - 1)) J tg))) rfl ?_
      obtain ⟨I1, J2, tg3, c7, h⟩ := h
      refine Runs.cl (cm := 219) (as := [.ref 93, .int 2, .int 0]) (rest := []) (r1 := (none, (zS I1 J2 tg3))) rfl (Nat.le_of_ble_eq_true rfl) c7 ?_
      refine Runs.as (c' := (163, [.ref 93, vU], [], (zS I1 J2 tg3))) rfl ?_
      refine Runs.sN 1 (c' := (115, [.ref 93, vU], [], (zS I1 J2 tg3))) rfl ?_
      exact h
    · rw [if_neg c6] at h
      refine Runs.brF (P := (I 102 (((I 93 23) - 1).toNatClampNeg)) = 2) (a := 137) (b := 166) (L := [.ref 93, vU]) (S := []) (z := (zS I J tg)) rfl c6 ?_
      refine Runs.sN 1 (c' := (167, [.ref 93, vU], [.int 0], (zS I J tg))) rfl ?_
      subst h
      exact Runs.rt rfl
-- X12_goesOn 
theorem sg_224 {L d : Nat} {xs : Nat → Int32} (I : Nat → Nat → Int32) (J : Nat → Nat → Int64) (tg : Option Nat) {r : Option Value × SS} (h : ((if (I 93 15) = 43 then (r = (some (.int 1), (zS I J tg))) else ((if (I 93 15) = 45 then (r = (some (.int 1), (zS I J tg))) else ((if (I 93 15) = 42 then (r = (some (.int 1), (zS I J tg))) else (r = (some (.int 0), (zS I J tg)))))))))) : Runs (GW L xs) d 224 (0, [.ref 93], [], (zS I J tg)) r := by
  refine Runs.sN 3 (c' := (6, [.ref 93], [.int 43, .int (I 93 15)], (zS I J tg))) rfl ?_
  by_cases c1 : (I 93 15) = 43
  · rw [if_pos c1] at h
    refine Runs.brT (P := (I 93 15) = 43) (a := 27) (b := 9) (L := [.ref 93]) (S := []) (z := (zS I J tg)) rfl c1 ?_
    refine Runs.sN 2 (c' := (32, [.ref 93], [.int 1], (zS I J tg))) rfl ?_
    subst h
    exact Runs.rt rfl
  · rw [if_neg c1] at h
    refine Runs.brF (P := (I 93 15) = 43) (a := 27) (b := 9) (L := [.ref 93]) (S := []) (z := (zS I J tg)) rfl c1 ?_
    refine Runs.sN 3 (c' := (15, [.ref 93], [.int 45, .int (I 93 15)], (zS I J tg))) rfl ?_
    by_cases c2 : (I 93 15) = 45
    · rw [if_pos c2] at h
      refine Runs.brT (P := (I 93 15) = 45) (a := 27) (b := 18) (L := [.ref 93]) (S := []) (z := (zS I J tg)) rfl c2 ?_
      refine Runs.sN 2 (c' := (32, [.ref 93], [.int 1], (zS I J tg))) rfl ?_
      subst h
      exact Runs.rt rfl
    · rw [if_neg c2] at h
      refine Runs.brF (P := (I 93 15) = 45) (a := 27) (b := 18) (L := [.ref 93]) (S := []) (z := (zS I J tg)) rfl c2 ?_
      refine Runs.sN 3 (c' := (24, [.ref 93], [.int 42, .int (I 93 15)], (zS I J tg))) rfl ?_
      by_cases c3 : (I 93 15) = 42
      · rw [if_pos c3] at h
        refine Runs.brT (P := (I 93 15) = 42) (a := 27) (b := 31) (L := [.ref 93]) (S := []) (z := (zS I J tg)) rfl c3 ?_
        refine Runs.sN 2 (c' := (32, [.ref 93], [.int 1], (zS I J tg))) rfl ?_
        subst h
        exact Runs.rt rfl
      · rw [if_neg c3] at h
        refine Runs.brF (P := (I 93 15) = 42) (a := 27) (b := 31) (L := [.ref 93]) (S := []) (z := (zS I J tg)) rfl c3 ?_
        refine Runs.sN 1 (c' := (32, [.ref 93], [.int 0], (zS I J tg))) rfl ?_
        subst h
        exact Runs.rt rfl
-- X12_summed 
theorem sg_225 {L d : Nat} {xs : Nat → Int32} (I : Nat → Nat → Int32) (J : Nat → Nat → Int64) (tg : Option Nat) {r : Option Value × SS} (h : (Runs (GW L xs) (d + 1) 225 (10, [.ref 93, vU], [], (zS (up2 (up2 I 93 23 0) 93 25 0) J tg)) r)) : Runs (GW L xs) (d + 1) 225 (0, [.ref 93, vU], [], (zS I J tg)) r := by
  refine Runs.sN 6 (c' := (10, [.ref 93, vU], [], (zS (up2 (up2 I 93 23 0) 93 25 0) J tg))) rfl ?_
  exact h
theorem sg_225_10 {L d : Nat} {xs : Nat → Int32} (I : Nat → Nat → Int32) (J : Nat → Nat → Int64) (tg : Option Nat) {r : Option Value × SS} (h : ((if (I 93 25) = 0 then (Runs (GW L xs) (d + 1) 225 (24, [.ref 93, vU], [], (zS I J tg)) r) else (∃ (v1 : Int32) (I2 : Nat → Nat → Int32) (J3 : Nat → Nat → Int64) (tg4 : Option Nat), Runs (GW L xs) d 224 (0, [.ref 93], [], (zS I J tg)) ((some (.int v1)), (zS I2 J3 tg4)) ∧ (if v1 = 0 then (∃ (I5 : Nat → Nat → Int32) (J6 : Nat → Nat → Int64) (tg7 : Option Nat), Runs (GW L xs) d 222 (0, [.ref 93, .int 3], [], (zS I2 J3 tg4)) (none, (zS I5 J6 tg7)) ∧ r = (some (.int 0), (zS I5 J6 tg7))) else (Runs (GW L xs) (d + 1) 225 (24, [.ref 93, vU], [], (zS I2 J3 tg4)) r)))))) : Runs (GW L xs) (d + 1) 225 (10, [.ref 93, vU], [], (zS I J tg)) r := by
  refine Runs.sN 2 (c' := (14, [.ref 93, vU], [.int (I 93 25)], (zS I J tg))) rfl ?_
  by_cases c8 : (I 93 25) = 0
  · rw [if_pos c8] at h
    refine Runs.brT (P := (I 93 25) = 0) (a := 24) (b := 17) (L := [.ref 93, vU]) (S := []) (z := (zS I J tg)) rfl c8 ?_
    exact h
  · rw [if_neg c8] at h
    refine Runs.brF (P := (I 93 25) = 0) (a := 24) (b := 17) (L := [.ref 93, vU]) (S := []) (z := (zS I J tg)) rfl c8 ?_
    refine Runs.sN 1 (c' := (18, [.ref 93, vU], [.ref 93], (zS I J tg))) rfl ?_
    obtain ⟨v1, I2, J3, tg4, c9, h⟩ := h
    refine Runs.cl (cm := 224) (as := [.ref 93]) (rest := []) (r1 := ((some (.int v1)), (zS I2 J3 tg4))) rfl (Nat.le_of_ble_eq_true rfl) c9 ?_
    refine Runs.as (c' := (21, [.ref 93, vU], [.int v1], (zS I2 J3 tg4))) rfl ?_
    by_cases c10 : v1 = 0
    · rw [if_pos c10] at h
      refine Runs.brT (P := v1 = 0) (a := 104) (b := 24) (L := [.ref 93, vU]) (S := []) (z := (zS I2 J3 tg4)) rfl c10 ?_
      refine Runs.sN 2 (c' := (106, [.ref 93, vU], [.int 3, .ref 93], (zS I2 J3 tg4))) rfl ?_
      obtain ⟨I5, J6, tg7, c11, h⟩ := h
      refine Runs.cl (cm := 222) (as := [.ref 93, .int 3]) (rest := []) (r1 := (none, (zS I5 J6 tg7))) rfl (Nat.le_of_ble_eq_true rfl) c11 ?_
      refine Runs.as (c' := (109, [.ref 93, vU], [], (zS I5 J6 tg7))) rfl ?_
      refine Runs.sN 1 (c' := (110, [.ref 93, vU], [.int 0], (zS I5 J6 tg7))) rfl ?_
      subst h
      exact Runs.rt rfl
    · rw [if_neg c10] at h
      refine Runs.brF (P := v1 = 0) (a := 104) (b := 24) (L := [.ref 93, vU]) (S := []) (z := (zS I2 J3 tg4)) rfl c10 ?_
      exact h
theorem sg_225_24 {L d : Nat} {xs : Nat → Int32} (I : Nat → Nat → Int32) (J : Nat → Nat → Int64) (tg : Option Nat) {r : Option Value × SS} (h : ((if (I 93 25) = 0 then (∃ (v1 : Int32) (I2 : Nat → Nat → Int32) (J3 : Nat → Nat → Int64) (tg4 : Option Nat), Runs (GW L xs) d 223 (0, [.ref 93, vU], [], (zS I J tg)) ((some (.int v1)), (zS I2 J3 tg4)) ∧ (if v1 = 0 then (Runs (GW L xs) (d + 1) 225 (10, [.ref 93, vU], [], (zS I2 J3 tg4)) r) else (r = (some (.int v1), (zS I2 J3 tg4))))) else ((if (I 93 15) = 42 then (Runs (GW L xs) (d + 1) 225 (58, [.ref 93, vU], [.int 5], (zS I J tg)) r) else ((if (I 93 15) = 43 then (Runs (GW L xs) (d + 1) 225 (58, [.ref 93, vU], [.int 3], (zS I J tg)) r) else (Runs (GW L xs) (d + 1) 225 (58, [.ref 93, vU], [.int 4], (zS I J tg)) r)))))))) : Runs (GW L xs) (d + 1) 225 (24, [.ref 93, vU], [], (zS I J tg)) r := by
  refine Runs.sN 2 (c' := (28, [.ref 93, vU], [.int (I 93 25)], (zS I J tg))) rfl ?_
  by_cases c5 : (I 93 25) = 0
  · rw [if_pos c5] at h
    refine Runs.brT (P := (I 93 25) = 0) (a := 90) (b := 31) (L := [.ref 93, vU]) (S := []) (z := (zS I J tg)) rfl c5 ?_
    refine Runs.sN 1 (c' := (91, [.ref 93, vU], [.ref 93], (zS I J tg))) rfl ?_
    obtain ⟨v1, I2, J3, tg4, c6, h⟩ := h
    refine Runs.cl (cm := 223) (as := [.ref 93]) (rest := []) (r1 := ((some (.int v1)), (zS I2 J3 tg4))) rfl (Nat.le_of_ble_eq_true rfl) c6 ?_
    refine Runs.as (c' := (94, [.ref 93, vU], [.int v1], (zS I2 J3 tg4))) rfl ?_
    refine Runs.sN 2 (c' := (96, [.ref 93, .int v1], [.int v1], (zS I2 J3 tg4))) rfl ?_
    by_cases c7 : v1 = 0
    · rw [if_pos c7] at h
      refine Runs.brT (P := v1 = 0) (a := 101) (b := 99) (L := [.ref 93, .int v1]) (S := []) (z := (zS I2 J3 tg4)) rfl c7 ?_
      refine Runs.sN 1 (c' := (10, [.ref 93, .int v1], [], (zS I2 J3 tg4))) rfl ?_
      exact Runs.weak (L := [.ref 93, vU]) (Lle.k (Lle.u Lle.n)) h
    · rw [if_neg c7] at h
      refine Runs.brF (P := v1 = 0) (a := 101) (b := 99) (L := [.ref 93, .int v1]) (S := []) (z := (zS I2 J3 tg4)) rfl c7 ?_
      refine Runs.sN 1 (c' := (100, [.ref 93, .int v1], [.int v1], (zS I2 J3 tg4))) rfl ?_
      subst h
      exact Runs.rt rfl
  · rw [if_neg c5] at h
    refine Runs.brF (P := (I 93 25) = 0) (a := 90) (b := 31) (L := [.ref 93, vU]) (S := []) (z := (zS I J tg)) rfl c5 ?_
    refine Runs.sN 3 (c' := (37, [.ref 93, vU], [.int 42, .int (I 93 15)], (zS I J tg))) rfl ?_
    by_cases c8 : (I 93 15) = 42
    · rw [if_pos c8] at h
      refine Runs.brT (P := (I 93 15) = 42) (a := 40) (b := 44) (L := [.ref 93, vU]) (S := []) (z := (zS I J tg)) rfl c8 ?_
      refine Runs.sN 2 (c' := (58, [.ref 93, vU], [.int 5], (zS I J tg))) rfl ?_
      exact h
    · rw [if_neg c8] at h
      refine Runs.brF (P := (I 93 15) = 42) (a := 40) (b := 44) (L := [.ref 93, vU]) (S := []) (z := (zS I J tg)) rfl c8 ?_
      refine Runs.sN 3 (c' := (50, [.ref 93, vU], [.int 43, .int (I 93 15)], (zS I J tg))) rfl ?_
      by_cases c9 : (I 93 15) = 43
      · rw [if_pos c9] at h
        refine Runs.brT (P := (I 93 15) = 43) (a := 53) (b := 57) (L := [.ref 93, vU]) (S := []) (z := (zS I J tg)) rfl c9 ?_
        refine Runs.sN 2 (c' := (58, [.ref 93, vU], [.int 3], (zS I J tg))) rfl ?_
        exact h
      · rw [if_neg c9] at h
        refine Runs.brF (P := (I 93 15) = 43) (a := 53) (b := 57) (L := [.ref 93, vU]) (S := []) (z := (zS I J tg)) rfl c9 ?_
        refine Runs.sN 1 (c' := (58, [.ref 93, vU], [.int 4], (zS I J tg))) rfl ?_
        exact h
theorem sg_225_58 {L d : Nat} {xs : Nat → Int32} (I : Nat → Nat → Int32) (J : Nat → Nat → Int64) (tg : Option Nat) (y0 : Int32) {r : Option Value × SS} (h : ((if y0 = 5 then (Runs (GW L xs) (d + 1) 225 (70, [.ref 93, .int y0], [.int 5, .ref 93], (zS I J tg)) r) else (Runs (GW L xs) (d + 1) 225 (70, [.ref 93, .int y0], [.int 3, .ref 93], (zS I J tg)) r)))) : Runs (GW L xs) (d + 1) 225 (58, [.ref 93, vU], [.int y0], (zS I J tg)) r := by
  refine Runs.sN 4 (c' := (62, [.ref 93, .int y0], [.int 5, .int y0, .ref 93], (zS I J tg))) rfl ?_
  by_cases c1 : y0 = 5
  · rw [if_pos c1] at h
    refine Runs.brT (P := y0 = 5) (a := 65) (b := 69) (L := [.ref 93, .int y0]) (S := [.ref 93]) (z := (zS I J tg)) rfl c1 ?_
    refine Runs.sN 2 (c' := (70, [.ref 93, .int y0], [.int 5, .ref 93], (zS I J tg))) rfl ?_
    exact h
  · rw [if_neg c1] at h
    refine Runs.brF (P := y0 = 5) (a := 65) (b := 69) (L := [.ref 93, .int y0]) (S := [.ref 93]) (z := (zS I J tg)) rfl c1 ?_
    refine Runs.sN 1 (c' := (70, [.ref 93, .int y0], [.int 3, .ref 93], (zS I J tg))) rfl ?_
    exact h
theorem sg_225_70 {L d : Nat} {xs : Nat → Int32} (I : Nat → Nat → Int32) (J : Nat → Nat → Int64) (tg : Option Nat) (x1 : Int32) (y1 : Int32) {r : Option Value × SS} (h : (∃ (I1 : Nat → Nat → Int32) (J2 : Nat → Nat → Int64) (tg3 : Option Nat), Runs (GW L xs) d 222 (0, [.ref 93, .int y1], [], (zS I J tg)) (none, (zS I1 J2 tg3)) ∧ ∃ (I4 : Nat → Nat → Int32) (J5 : Nat → Nat → Int64) (tg6 : Option Nat), Runs (GW L xs) d 221 (0, [.ref 93, .int x1], [], (zS I1 J2 tg3)) (none, (zS I4 J5 tg6)) ∧ ∃ (I7 : Nat → Nat → Int32) (J8 : Nat → Nat → Int64) (tg9 : Option Nat), Runs (GW L xs) d 213 (0, [.ref 93, vU, vU], [], (zS (up2 I4 93 25 0) J5 tg6)) (none, (zS I7 J8 tg9)) ∧ Runs (GW L xs) (d + 1) 225 (10, [.ref 93, vU], [], (zS I7 J8 tg9)) r)) : Runs (GW L xs) (d + 1) 225 (70, [.ref 93, .int x1], [.int y1, .ref 93], (zS I J tg)) r := by
  obtain ⟨I1, J2, tg3, c10, h⟩ := h
  refine Runs.cl (cm := 222) (as := [.ref 93, .int y1]) (rest := []) (r1 := (none, (zS I1 J2 tg3))) rfl (Nat.le_of_ble_eq_true rfl) c10 ?_
  refine Runs.as (c' := (73, [.ref 93, .int x1], [], (zS I1 J2 tg3))) rfl ?_
  refine Runs.sN 2 (c' := (75, [.ref 93, .int x1], [.int x1, .ref 93], (zS I1 J2 tg3))) rfl ?_
  obtain ⟨I4, J5, tg6, c11, h⟩ := h
  refine Runs.cl (cm := 221) (as := [.ref 93, .int x1]) (rest := []) (r1 := (none, (zS I4 J5 tg6))) rfl (Nat.le_of_ble_eq_true rfl) c11 ?_
  refine Runs.as (c' := (78, [.ref 93, .int x1], [], (zS I4 J5 tg6))) rfl ?_
  refine Runs.sN 4 (c' := (84, [.ref 93, .int x1], [.ref 93], (zS (up2 I4 93 25 0) J5 tg6))) rfl ?_
  obtain ⟨I7, J8, tg9, c12, h⟩ := h
  refine Runs.cl (cm := 213) (as := [.ref 93]) (rest := []) (r1 := (none, (zS I7 J8 tg9))) rfl (Nat.le_of_ble_eq_true rfl) c12 ?_
  refine Runs.as (c' := (87, [.ref 93, .int x1], [], (zS I7 J8 tg9))) rfl ?_
  refine Runs.sN 1 (c' := (10, [.ref 93, .int x1], [], (zS I7 J8 tg9))) rfl ?_
  exact Runs.weak (L := [.ref 93, vU]) (Lle.k (Lle.u Lle.n)) h
-- X12_compareOf 
theorem sg_226 {L d : Nat} {xs : Nat → Int32} (I : Nat → Nat → Int32) (J : Nat → Nat → Int64) (tg : Option Nat) {r : Option Value × SS} (h : ((if (I 93 15) = 60 then (r = (some (.int 10), (zS I J tg))) else ((if (I 93 15) = 4 then (r = (some (.int 11), (zS I J tg))) else ((if (I 93 15) = 62 then (r = (some (.int 12), (zS I J tg))) else ((if (I 93 15) = 5 then (r = (some (.int 13), (zS I J tg))) else ((if (I 93 15) = 61 then (r = (some (.int 14), (zS I J tg))) else ((if (I 93 15) = 35 then (r = (some (.int 15), (zS I J tg))) else (r = (some (.int (-1)), (zS I J tg)))))))))))))))) : Runs (GW L xs) d 226 (0, [.ref 93], [], (zS I J tg)) r := by
  refine Runs.sN 3 (c' := (6, [.ref 93], [.int 60, .int (I 93 15)], (zS I J tg))) rfl ?_
  by_cases c1 : (I 93 15) = 60
  · rw [if_pos c1] at h
    refine Runs.brT (P := (I 93 15) = 60) (a := 9) (b := 14) (L := [.ref 93]) (S := []) (z := (zS I J tg)) rfl c1 ?_
    refine Runs.sN 2 (c' := (83, [.ref 93], [.int 10], (zS I J tg))) rfl ?_
    subst h
    exact Runs.rt rfl
  · rw [if_neg c1] at h
    refine Runs.brF (P := (I 93 15) = 60) (a := 9) (b := 14) (L := [.ref 93]) (S := []) (z := (zS I J tg)) rfl c1 ?_
    refine Runs.sN 3 (c' := (19, [.ref 93], [.int 4, .int (I 93 15)], (zS I J tg))) rfl ?_
    by_cases c2 : (I 93 15) = 4
    · rw [if_pos c2] at h
      refine Runs.brT (P := (I 93 15) = 4) (a := 22) (b := 27) (L := [.ref 93]) (S := []) (z := (zS I J tg)) rfl c2 ?_
      refine Runs.sN 2 (c' := (83, [.ref 93], [.int 11], (zS I J tg))) rfl ?_
      subst h
      exact Runs.rt rfl
    · rw [if_neg c2] at h
      refine Runs.brF (P := (I 93 15) = 4) (a := 22) (b := 27) (L := [.ref 93]) (S := []) (z := (zS I J tg)) rfl c2 ?_
      refine Runs.sN 3 (c' := (33, [.ref 93], [.int 62, .int (I 93 15)], (zS I J tg))) rfl ?_
      by_cases c3 : (I 93 15) = 62
      · rw [if_pos c3] at h
        refine Runs.brT (P := (I 93 15) = 62) (a := 36) (b := 41) (L := [.ref 93]) (S := []) (z := (zS I J tg)) rfl c3 ?_
        refine Runs.sN 2 (c' := (83, [.ref 93], [.int 12], (zS I J tg))) rfl ?_
        subst h
        exact Runs.rt rfl
      · rw [if_neg c3] at h
        refine Runs.brF (P := (I 93 15) = 62) (a := 36) (b := 41) (L := [.ref 93]) (S := []) (z := (zS I J tg)) rfl c3 ?_
        refine Runs.sN 3 (c' := (46, [.ref 93], [.int 5, .int (I 93 15)], (zS I J tg))) rfl ?_
        by_cases c4 : (I 93 15) = 5
        · rw [if_pos c4] at h
          refine Runs.brT (P := (I 93 15) = 5) (a := 49) (b := 54) (L := [.ref 93]) (S := []) (z := (zS I J tg)) rfl c4 ?_
          refine Runs.sN 2 (c' := (83, [.ref 93], [.int 13], (zS I J tg))) rfl ?_
          subst h
          exact Runs.rt rfl
        · rw [if_neg c4] at h
          refine Runs.brF (P := (I 93 15) = 5) (a := 49) (b := 54) (L := [.ref 93]) (S := []) (z := (zS I J tg)) rfl c4 ?_
          refine Runs.sN 3 (c' := (60, [.ref 93], [.int 61, .int (I 93 15)], (zS I J tg))) rfl ?_
          by_cases c5 : (I 93 15) = 61
          · rw [if_pos c5] at h
            refine Runs.brT (P := (I 93 15) = 61) (a := 63) (b := 68) (L := [.ref 93]) (S := []) (z := (zS I J tg)) rfl c5 ?_
            refine Runs.sN 2 (c' := (83, [.ref 93], [.int 14], (zS I J tg))) rfl ?_
            subst h
            exact Runs.rt rfl
          · rw [if_neg c5] at h
            refine Runs.brF (P := (I 93 15) = 61) (a := 63) (b := 68) (L := [.ref 93]) (S := []) (z := (zS I J tg)) rfl c5 ?_
            refine Runs.sN 3 (c' := (74, [.ref 93], [.int 35, .int (I 93 15)], (zS I J tg))) rfl ?_
            by_cases c6 : (I 93 15) = 35
            · rw [if_pos c6] at h
              refine Runs.brT (P := (I 93 15) = 35) (a := 77) (b := 82) (L := [.ref 93]) (S := []) (z := (zS I J tg)) rfl c6 ?_
              refine Runs.sN 2 (c' := (83, [.ref 93], [.int 15], (zS I J tg))) rfl ?_
              subst h
              exact Runs.rt rfl
            · rw [if_neg c6] at h
              refine Runs.brF (P := (I 93 15) = 35) (a := 77) (b := 82) (L := [.ref 93]) (S := []) (z := (zS I J tg)) rfl c6 ?_
              refine Runs.sN 1 (c' := (83, [.ref 93], [.int (-1)], (zS I J tg))) rfl ?_
              subst h
              exact Runs.rt rfl
-- X12_asks 
theorem sg_227 {L d : Nat} {xs : Nat → Int32} (I : Nat → Nat → Int32) (J : Nat → Nat → Int64) (tg : Option Nat) {r : Option Value × SS} (h : ((if (I 93 15) = 40 then ((if (I 93 24) = 8 then (r = (some (.int 3), (zS I J tg))) else (¬ ((I 93 10) < 0 ∨ 160 ≤ (I 93 10).toNatClampNeg) ∧ ∃ (I64 : Nat → Nat → Int32) (J65 : Nat → Nat → Int64) (tg66 : Option Nat), Runs (GW L xs) d 213 (0, [.ref 93, vU, vU], [], (zS (up2 (up2 (up2 I 93 24 ((I 93 24) + 1)) 101 ((I 93 10).toNatClampNeg) 40) 93 10 ((I 93 10) + 1)) J tg)) (none, (zS I64 J65 tg66)) ∧ Runs (GW L xs) (d + 1) 227 (0, [.ref 93, vU, vU], [], (zS I64 J65 tg66)) r))) else (∃ (v67 : Int32) (I68 : Nat → Nat → Int32) (J69 : Nat → Nat → Int64) (tg70 : Option Nat), Runs (GW L xs) d 225 (0, [.ref 93, vU], [], (zS I J tg)) ((some (.int v67)), (zS I68 J69 tg70)) ∧ (if v67 = 0 then (∃ (v71 : Int32) (I72 : Nat → Nat → Int32) (J73 : Nat → Nat → Int64) (tg74 : Option Nat), Runs (GW L xs) d 226 (0, [.ref 93], [], (zS I68 J69 tg70)) ((some (.int v71)), (zS I72 J73 tg74)) ∧ (if 0 ≤ v71 then (∃ (I75 : Nat → Nat → Int32) (J76 : Nat → Nat → Int64) (tg77 : Option Nat), Runs (GW L xs) d 213 (0, [.ref 93, vU, vU], [], (zS I72 J73 tg74)) (none, (zS I75 J76 tg77)) ∧ ∃ (v78 : Int32) (I79 : Nat → Nat → Int32) (J80 : Nat → Nat → Int64) (tg81 : Option Nat), Runs (GW L xs) d 225 (0, [.ref 93, vU], [], (zS I75 J76 tg77)) ((some (.int v78)), (zS I79 J80 tg81)) ∧ (if v78 = 0 then (∃ (I82 : Nat → Nat → Int32) (J83 : Nat → Nat → Int64) (tg84 : Option Nat), Runs (GW L xs) d 219 (0, [.ref 93, .int v71, .int 0], [], (zS I79 J80 tg81)) (none, (zS I82 J83 tg84)) ∧ r = (some (.int 0), (zS I82 J83 tg84))) else (r = (some (.int v78), (zS I79 J80 tg81))))) else (r = (some (.int 1), (zS I72 J73 tg74))))) else (r = (some (.int v67), (zS I68 J69 tg70)))))))) : Runs (GW L xs) (d + 1) 227 (0, [.ref 93, vU, vU], [], (zS I J tg)) r := by
  refine Runs.sN 3 (c' := (6, [.ref 93, vU, vU], [.int 40, .int (I 93 15)], (zS I J tg))) rfl ?_
  by_cases c85 : (I 93 15) = 40
  · rw [if_pos c85] at h
    refine Runs.brT (P := (I 93 15) = 40) (a := 9) (b := 58) (L := [.ref 93, vU, vU]) (S := []) (z := (zS I J tg)) rfl c85 ?_
    refine Runs.sN 3 (c' := (15, [.ref 93, vU, vU], [.int 8, .int (I 93 24)], (zS I J tg))) rfl ?_
    by_cases c86 : (I 93 24) = 8
    · rw [if_pos c86] at h
      refine Runs.brT (P := (I 93 24) = 8) (a := 18) (b := 20) (L := [.ref 93, vU, vU]) (S := []) (z := (zS I J tg)) rfl c86 ?_
      refine Runs.sN 1 (c' := (19, [.ref 93, vU, vU], [.int 3], (zS I J tg))) rfl ?_
      subst h
      exact Runs.rt rfl
    · rw [if_neg c86] at h
      refine Runs.brF (P := (I 93 24) = 8) (a := 18) (b := 20) (L := [.ref 93, vU, vU]) (S := []) (z := (zS I J tg)) rfl c86 ?_
      refine Runs.sN 11 (c' := (40, [.ref 93, vU, vU], [.int 40, .int (I 93 10), .ref 101], (zS (up2 I 93 24 ((I 93 24) + 1)) J tg))) rfl ?_
      obtain ⟨c87, h⟩ := h
      refine Runs.to (c' := (41, [.ref 93, vU, vU], [], (zS (up2 (up2 I 93 24 ((I 93 24) + 1)) 101 ((I 93 10).toNatClampNeg) 40) J tg))) (Runs.ist rfl (show (101 : Nat) < 114 by decide) rfl c87) ?_
      refine Runs.sN 7 (c' := (52, [.ref 93, vU, vU], [.ref 93], (zS (up2 (up2 (up2 I 93 24 ((I 93 24) + 1)) 101 ((I 93 10).toNatClampNeg) 40) 93 10 ((I 93 10) + 1)) J tg))) rfl ?_
      obtain ⟨I64, J65, tg66, c88, h⟩ := h
      refine Runs.cl (cm := 213) (as := [.ref 93]) (rest := []) (r1 := (none, (zS I64 J65 tg66))) rfl (Nat.le_of_ble_eq_true rfl) c88 ?_
      refine Runs.as (c' := (55, [.ref 93, vU, vU], [], (zS I64 J65 tg66))) rfl ?_
      refine Runs.sN 1 (c' := (0, [.ref 93, vU, vU], [], (zS I64 J65 tg66))) rfl ?_
      exact h
  · rw [if_neg c85] at h
    refine Runs.brF (P := (I 93 15) = 40) (a := 9) (b := 58) (L := [.ref 93, vU, vU]) (S := []) (z := (zS I J tg)) rfl c85 ?_
    refine Runs.sN 1 (c' := (59, [.ref 93, vU, vU], [.ref 93], (zS I J tg))) rfl ?_
    obtain ⟨v67, I68, J69, tg70, c89, h⟩ := h
    refine Runs.cl (cm := 225) (as := [.ref 93]) (rest := []) (r1 := ((some (.int v67)), (zS I68 J69 tg70))) rfl (Nat.le_of_ble_eq_true rfl) c89 ?_
    refine Runs.as (c' := (62, [.ref 93, vU, vU], [.int v67], (zS I68 J69 tg70))) rfl ?_
    refine Runs.sN 2 (c' := (64, [.ref 93, .int v67, vU], [.int v67], (zS I68 J69 tg70))) rfl ?_
    by_cases c90 : v67 = 0
    · rw [if_pos c90] at h
      refine Runs.brT (P := v67 = 0) (a := 69) (b := 67) (L := [.ref 93, .int v67, vU]) (S := []) (z := (zS I68 J69 tg70)) rfl c90 ?_
      refine Runs.sN 1 (c' := (70, [.ref 93, .int v67, vU], [.ref 93], (zS I68 J69 tg70))) rfl ?_
      obtain ⟨v71, I72, J73, tg74, c91, h⟩ := h
      refine Runs.cl (cm := 226) (as := [.ref 93]) (rest := []) (r1 := ((some (.int v71)), (zS I72 J73 tg74))) rfl (Nat.le_of_ble_eq_true rfl) c91 ?_
      refine Runs.as (c' := (73, [.ref 93, .int v67, vU], [.int v71], (zS I72 J73 tg74))) rfl ?_
      refine Runs.sN 2 (c' := (75, [.ref 93, .int v67, .int v71], [.int v71], (zS I72 J73 tg74))) rfl ?_
      by_cases c92 : 0 ≤ v71
      · rw [if_pos c92] at h
        refine Runs.brT (P := 0 ≤ v71) (a := 80) (b := 78) (L := [.ref 93, .int v67, .int v71]) (S := []) (z := (zS I72 J73 tg74)) rfl c92 ?_
        refine Runs.sN 1 (c' := (81, [.ref 93, .int v67, .int v71], [.ref 93], (zS I72 J73 tg74))) rfl ?_
        obtain ⟨I75, J76, tg77, c93, h⟩ := h
        refine Runs.cl (cm := 213) (as := [.ref 93]) (rest := []) (r1 := (none, (zS I75 J76 tg77))) rfl (Nat.le_of_ble_eq_true rfl) c93 ?_
        refine Runs.as (c' := (84, [.ref 93, .int v67, .int v71], [], (zS I75 J76 tg77))) rfl ?_
        refine Runs.sN 1 (c' := (85, [.ref 93, .int v67, .int v71], [.ref 93], (zS I75 J76 tg77))) rfl ?_
        obtain ⟨v78, I79, J80, tg81, c94, h⟩ := h
        refine Runs.cl (cm := 225) (as := [.ref 93]) (rest := []) (r1 := ((some (.int v78)), (zS I79 J80 tg81))) rfl (Nat.le_of_ble_eq_true rfl) c94 ?_
        refine Runs.as (c' := (88, [.ref 93, .int v67, .int v71], [.int v78], (zS I79 J80 tg81))) rfl ?_
        refine Runs.sN 2 (c' := (90, [.ref 93, .int v78, .int v71], [.int v78], (zS I79 J80 tg81))) rfl ?_
        by_cases c95 : v78 = 0
        · rw [if_pos c95] at h
          refine Runs.brT (P := v78 = 0) (a := 95) (b := 93) (L := [.ref 93, .int v78, .int v71]) (S := []) (z := (zS I79 J80 tg81)) rfl c95 ?_
          refine Runs.sN 3 (c' := (98, [.ref 93, .int v78, .int v71], [.int 0, .int v71, .ref 93], (zS I79 J80 tg81))) rfl ?_
          obtain ⟨I82, J83, tg84, c96, h⟩ := h
          refine Runs.cl (cm := 219) (as := [.ref 93, .int v71, .int 0]) (rest := []) (r1 := (none, (zS I82 J83 tg84))) rfl (Nat.le_of_ble_eq_true rfl) c96 ?_
          refine Runs.as (c' := (101, [.ref 93, .int v78, .int v71], [], (zS I82 J83 tg84))) rfl ?_
          refine Runs.sN 1 (c' := (102, [.ref 93, .int v78, .int v71], [.int 0], (zS I82 J83 tg84))) rfl ?_
          subst h
          exact Runs.rt rfl
        · rw [if_neg c95] at h
          refine Runs.brF (P := v78 = 0) (a := 95) (b := 93) (L := [.ref 93, .int v78, .int v71]) (S := []) (z := (zS I79 J80 tg81)) rfl c95 ?_
          refine Runs.sN 1 (c' := (94, [.ref 93, .int v78, .int v71], [.int v78], (zS I79 J80 tg81))) rfl ?_
          subst h
          exact Runs.rt rfl
      · rw [if_neg c92] at h
        refine Runs.brF (P := 0 ≤ v71) (a := 80) (b := 78) (L := [.ref 93, .int v67, .int v71]) (S := []) (z := (zS I72 J73 tg74)) rfl c92 ?_
        refine Runs.sN 1 (c' := (79, [.ref 93, .int v67, .int v71], [.int 1], (zS I72 J73 tg74))) rfl ?_
        subst h
        exact Runs.rt rfl
    · rw [if_neg c90] at h
      refine Runs.brF (P := v67 = 0) (a := 69) (b := 67) (L := [.ref 93, .int v67, vU]) (S := []) (z := (zS I68 J69 tg70)) rfl c90 ?_
      refine Runs.sN 1 (c' := (68, [.ref 93, .int v67, vU], [.int v67], (zS I68 J69 tg70))) rfl ?_
      subst h
      exact Runs.rt rfl
theorem sg_227_0 {L d : Nat} {xs : Nat → Int32} (I : Nat → Nat → Int32) (J : Nat → Nat → Int64) (tg : Option Nat) {r : Option Value × SS} (h : ((if (I 93 15) = 40 then ((if (I 93 24) = 8 then (r = (some (.int 3), (zS I J tg))) else (¬ ((I 93 10) < 0 ∨ 160 ≤ (I 93 10).toNatClampNeg) ∧ ∃ (I1 : Nat → Nat → Int32) (J2 : Nat → Nat → Int64) (tg3 : Option Nat), Runs (GW L xs) d 213 (0, [.ref 93, vU, vU], [], (zS (up2 (up2 (up2 I 93 24 ((I 93 24) + 1)) 101 ((I 93 10).toNatClampNeg) 40) 93 10 ((I 93 10) + 1)) J tg)) (none, (zS I1 J2 tg3)) ∧ Runs (GW L xs) (d + 1) 227 (0, [.ref 93, vU, vU], [], (zS I1 J2 tg3)) r))) else (∃ (v4 : Int32) (I5 : Nat → Nat → Int32) (J6 : Nat → Nat → Int64) (tg7 : Option Nat), Runs (GW L xs) d 225 (0, [.ref 93, vU], [], (zS I J tg)) ((some (.int v4)), (zS I5 J6 tg7)) ∧ (if v4 = 0 then (∃ (v8 : Int32) (I9 : Nat → Nat → Int32) (J10 : Nat → Nat → Int64) (tg11 : Option Nat), Runs (GW L xs) d 226 (0, [.ref 93], [], (zS I5 J6 tg7)) ((some (.int v8)), (zS I9 J10 tg11)) ∧ (if 0 ≤ v8 then (∃ (I12 : Nat → Nat → Int32) (J13 : Nat → Nat → Int64) (tg14 : Option Nat), Runs (GW L xs) d 213 (0, [.ref 93, vU, vU], [], (zS I9 J10 tg11)) (none, (zS I12 J13 tg14)) ∧ ∃ (v15 : Int32) (I16 : Nat → Nat → Int32) (J17 : Nat → Nat → Int64) (tg18 : Option Nat), Runs (GW L xs) d 225 (0, [.ref 93, vU], [], (zS I12 J13 tg14)) ((some (.int v15)), (zS I16 J17 tg18)) ∧ (if v15 = 0 then (∃ (I19 : Nat → Nat → Int32) (J20 : Nat → Nat → Int64) (tg21 : Option Nat), Runs (GW L xs) d 219 (0, [.ref 93, .int v8, .int 0], [], (zS I16 J17 tg18)) (none, (zS I19 J20 tg21)) ∧ r = (some (.int 0), (zS I19 J20 tg21))) else (r = (some (.int v15), (zS I16 J17 tg18))))) else (r = (some (.int 1), (zS I9 J10 tg11))))) else (r = (some (.int v4), (zS I5 J6 tg7)))))))) : Runs (GW L xs) (d + 1) 227 (0, [.ref 93, vU, vU], [], (zS I J tg)) r := by
  refine Runs.sN 3 (c' := (6, [.ref 93, vU, vU], [.int 40, .int (I 93 15)], (zS I J tg))) rfl ?_
  by_cases c22 : (I 93 15) = 40
  · rw [if_pos c22] at h
    refine Runs.brT (P := (I 93 15) = 40) (a := 9) (b := 58) (L := [.ref 93, vU, vU]) (S := []) (z := (zS I J tg)) rfl c22 ?_
    refine Runs.sN 3 (c' := (15, [.ref 93, vU, vU], [.int 8, .int (I 93 24)], (zS I J tg))) rfl ?_
    by_cases c23 : (I 93 24) = 8
    · rw [if_pos c23] at h
      refine Runs.brT (P := (I 93 24) = 8) (a := 18) (b := 20) (L := [.ref 93, vU, vU]) (S := []) (z := (zS I J tg)) rfl c23 ?_
      refine Runs.sN 1 (c' := (19, [.ref 93, vU, vU], [.int 3], (zS I J tg))) rfl ?_
      subst h
      exact Runs.rt rfl
    · rw [if_neg c23] at h
      refine Runs.brF (P := (I 93 24) = 8) (a := 18) (b := 20) (L := [.ref 93, vU, vU]) (S := []) (z := (zS I J tg)) rfl c23 ?_
      refine Runs.sN 11 (c' := (40, [.ref 93, vU, vU], [.int 40, .int (I 93 10), .ref 101], (zS (up2 I 93 24 ((I 93 24) + 1)) J tg))) rfl ?_
      obtain ⟨c24, h⟩ := h
      refine Runs.to (c' := (41, [.ref 93, vU, vU], [], (zS (up2 (up2 I 93 24 ((I 93 24) + 1)) 101 ((I 93 10).toNatClampNeg) 40) J tg))) (Runs.ist rfl (show (101 : Nat) < 114 by decide) rfl c24) ?_
      refine Runs.sN 7 (c' := (52, [.ref 93, vU, vU], [.ref 93], (zS (up2 (up2 (up2 I 93 24 ((I 93 24) + 1)) 101 ((I 93 10).toNatClampNeg) 40) 93 10 ((I 93 10) + 1)) J tg))) rfl ?_
      obtain ⟨I1, J2, tg3, c25, h⟩ := h
      refine Runs.cl (cm := 213) (as := [.ref 93]) (rest := []) (r1 := (none, (zS I1 J2 tg3))) rfl (Nat.le_of_ble_eq_true rfl) c25 ?_
      refine Runs.as (c' := (55, [.ref 93, vU, vU], [], (zS I1 J2 tg3))) rfl ?_
      refine Runs.sN 1 (c' := (0, [.ref 93, vU, vU], [], (zS I1 J2 tg3))) rfl ?_
      exact h
  · rw [if_neg c22] at h
    refine Runs.brF (P := (I 93 15) = 40) (a := 9) (b := 58) (L := [.ref 93, vU, vU]) (S := []) (z := (zS I J tg)) rfl c22 ?_
    refine Runs.sN 1 (c' := (59, [.ref 93, vU, vU], [.ref 93], (zS I J tg))) rfl ?_
    obtain ⟨v4, I5, J6, tg7, c26, h⟩ := h
    refine Runs.cl (cm := 225) (as := [.ref 93]) (rest := []) (r1 := ((some (.int v4)), (zS I5 J6 tg7))) rfl (Nat.le_of_ble_eq_true rfl) c26 ?_
    refine Runs.as (c' := (62, [.ref 93, vU, vU], [.int v4], (zS I5 J6 tg7))) rfl ?_
    refine Runs.sN 2 (c' := (64, [.ref 93, .int v4, vU], [.int v4], (zS I5 J6 tg7))) rfl ?_
    by_cases c27 : v4 = 0
    · rw [if_pos c27] at h
      refine Runs.brT (P := v4 = 0) (a := 69) (b := 67) (L := [.ref 93, .int v4, vU]) (S := []) (z := (zS I5 J6 tg7)) rfl c27 ?_
      refine Runs.sN 1 (c' := (70, [.ref 93, .int v4, vU], [.ref 93], (zS I5 J6 tg7))) rfl ?_
      obtain ⟨v8, I9, J10, tg11, c28, h⟩ := h
      refine Runs.cl (cm := 226) (as := [.ref 93]) (rest := []) (r1 := ((some (.int v8)), (zS I9 J10 tg11))) rfl (Nat.le_of_ble_eq_true rfl) c28 ?_
      refine Runs.as (c' := (73, [.ref 93, .int v4, vU], [.int v8], (zS I9 J10 tg11))) rfl ?_
      refine Runs.sN 2 (c' := (75, [.ref 93, .int v4, .int v8], [.int v8], (zS I9 J10 tg11))) rfl ?_
      by_cases c29 : 0 ≤ v8
      · rw [if_pos c29] at h
        refine Runs.brT (P := 0 ≤ v8) (a := 80) (b := 78) (L := [.ref 93, .int v4, .int v8]) (S := []) (z := (zS I9 J10 tg11)) rfl c29 ?_
        refine Runs.sN 1 (c' := (81, [.ref 93, .int v4, .int v8], [.ref 93], (zS I9 J10 tg11))) rfl ?_
        obtain ⟨I12, J13, tg14, c30, h⟩ := h
        refine Runs.cl (cm := 213) (as := [.ref 93]) (rest := []) (r1 := (none, (zS I12 J13 tg14))) rfl (Nat.le_of_ble_eq_true rfl) c30 ?_
        refine Runs.as (c' := (84, [.ref 93, .int v4, .int v8], [], (zS I12 J13 tg14))) rfl ?_
        refine Runs.sN 1 (c' := (85, [.ref 93, .int v4, .int v8], [.ref 93], (zS I12 J13 tg14))) rfl ?_
        obtain ⟨v15, I16, J17, tg18, c31, h⟩ := h
        refine Runs.cl (cm := 225) (as := [.ref 93]) (rest := []) (r1 := ((some (.int v15)), (zS I16 J17 tg18))) rfl (Nat.le_of_ble_eq_true rfl) c31 ?_
        refine Runs.as (c' := (88, [.ref 93, .int v4, .int v8], [.int v15], (zS I16 J17 tg18))) rfl ?_
        refine Runs.sN 2 (c' := (90, [.ref 93, .int v15, .int v8], [.int v15], (zS I16 J17 tg18))) rfl ?_
        by_cases c32 : v15 = 0
        · rw [if_pos c32] at h
          refine Runs.brT (P := v15 = 0) (a := 95) (b := 93) (L := [.ref 93, .int v15, .int v8]) (S := []) (z := (zS I16 J17 tg18)) rfl c32 ?_
          refine Runs.sN 3 (c' := (98, [.ref 93, .int v15, .int v8], [.int 0, .int v8, .ref 93], (zS I16 J17 tg18))) rfl ?_
          obtain ⟨I19, J20, tg21, c33, h⟩ := h
          refine Runs.cl (cm := 219) (as := [.ref 93, .int v8, .int 0]) (rest := []) (r1 := (none, (zS I19 J20 tg21))) rfl (Nat.le_of_ble_eq_true rfl) c33 ?_
          refine Runs.as (c' := (101, [.ref 93, .int v15, .int v8], [], (zS I19 J20 tg21))) rfl ?_
          refine Runs.sN 1 (c' := (102, [.ref 93, .int v15, .int v8], [.int 0], (zS I19 J20 tg21))) rfl ?_
          subst h
          exact Runs.rt rfl
        · rw [if_neg c32] at h
          refine Runs.brF (P := v15 = 0) (a := 95) (b := 93) (L := [.ref 93, .int v15, .int v8]) (S := []) (z := (zS I16 J17 tg18)) rfl c32 ?_
          refine Runs.sN 1 (c' := (94, [.ref 93, .int v15, .int v8], [.int v15], (zS I16 J17 tg18))) rfl ?_
          subst h
          exact Runs.rt rfl
      · rw [if_neg c29] at h
        refine Runs.brF (P := 0 ≤ v8) (a := 80) (b := 78) (L := [.ref 93, .int v4, .int v8]) (S := []) (z := (zS I9 J10 tg11)) rfl c29 ?_
        refine Runs.sN 1 (c' := (79, [.ref 93, .int v4, .int v8], [.int 1], (zS I9 J10 tg11))) rfl ?_
        subst h
        exact Runs.rt rfl
    · rw [if_neg c27] at h
      refine Runs.brF (P := v4 = 0) (a := 69) (b := 67) (L := [.ref 93, .int v4, vU]) (S := []) (z := (zS I5 J6 tg7)) rfl c27 ?_
      refine Runs.sN 1 (c' := (68, [.ref 93, .int v4, vU], [.int v4], (zS I5 J6 tg7))) rfl ?_
      subst h
      exact Runs.rt rfl
-- X12_settleAsks 
theorem sg_228 {L d : Nat} {xs : Nat → Int32} (I : Nat → Nat → Int32) (J : Nat → Nat → Int64) (tg : Option Nat) (a1 : Int32) {r : Option Value × SS} (h : ((if (I 93 10) ≤ 0 then (r = (none, (zS I J tg))) else (¬ (((I 93 10) - 1) < 0 ∨ 160 ≤ ((I 93 10) - 1).toNatClampNeg) ∧ (if (I 101 (((I 93 10) - 1).toNatClampNeg)) = 21 then (¬ (((I 93 10) - 1) < 0 ∨ 160 ≤ ((I 93 10) - 1).toNatClampNeg) ∧ ∃ (I19 : Nat → Nat → Int32) (J20 : Nat → Nat → Int64) (tg21 : Option Nat), Runs (GW L xs) d 219 (0, [.ref 93, .int (I 101 (((I 93 10) - 1).toNatClampNeg)), .int 0], [], (zS (up2 I 93 10 ((I 93 10) - 1)) J tg)) (none, (zS I19 J20 tg21)) ∧ Runs (GW L xs) (d + 1) 228 (0, [.ref 93, .int a1], [], (zS I19 J20 tg21)) r) else ((if a1 = 0 then (r = (none, (zS I J tg))) else (¬ (((I 93 10) - 1) < 0 ∨ 160 ≤ ((I 93 10) - 1).toNatClampNeg) ∧ (if (I 101 (((I 93 10) - 1).toNatClampNeg)) = 22 then (¬ (((I 93 10) - 1) < 0 ∨ 160 ≤ ((I 93 10) - 1).toNatClampNeg) ∧ ∃ (I22 : Nat → Nat → Int32) (J23 : Nat → Nat → Int64) (tg24 : Option Nat), Runs (GW L xs) d 219 (0, [.ref 93, .int (I 101 (((I 93 10) - 1).toNatClampNeg)), .int 0], [], (zS (up2 I 93 10 ((I 93 10) - 1)) J tg)) (none, (zS I22 J23 tg24)) ∧ Runs (GW L xs) (d + 1) 228 (0, [.ref 93, .int a1], [], (zS I22 J23 tg24)) r) else (r = (none, (zS I J tg)))))))))))) : Runs (GW L xs) (d + 1) 228 (0, [.ref 93, .int a1], [], (zS I J tg)) r := by
  refine Runs.sN 2 (c' := (4, [.ref 93, .int a1], [.int (I 93 10)], (zS I J tg))) rfl ?_
  by_cases c25 : (I 93 10) ≤ 0
  · rw [if_pos c25] at h
    refine Runs.brT (P := (I 93 10) ≤ 0) (a := 70) (b := 7) (L := [.ref 93, .int a1]) (S := []) (z := (zS I J tg)) rfl c25 ?_
    subst h
    exact Runs.rt rfl
  · rw [if_neg c25] at h
    refine Runs.brF (P := (I 93 10) ≤ 0) (a := 70) (b := 7) (L := [.ref 93, .int a1]) (S := []) (z := (zS I J tg)) rfl c25 ?_
    refine Runs.sN 6 (c' := (17, [.ref 93, .int a1], [.int ((I 93 10) - 1), .ref 101], (zS I J tg))) rfl ?_
    obtain ⟨c26, h⟩ := h
    refine Runs.to (c' := (18, [.ref 93, .int a1], [.int (I 101 (((I 93 10) - 1).toNatClampNeg))], (zS I J tg))) (Runs.ild rfl (show (101 : Nat) < 114 by decide) rfl c26) ?_
    refine Runs.sN 1 (c' := (20, [.ref 93, .int a1], [.int 21, .int (I 101 (((I 93 10) - 1).toNatClampNeg))], (zS I J tg))) rfl ?_
    by_cases c27 : (I 101 (((I 93 10) - 1).toNatClampNeg)) = 21
    · rw [if_pos c27] at h
      refine Runs.brT (P := (I 101 (((I 93 10) - 1).toNatClampNeg)) = 21) (a := 43) (b := 23) (L := [.ref 93, .int a1]) (S := []) (z := (zS I J tg)) rfl c27 ?_
      refine Runs.sN 11 (c' := (62, [.ref 93, .int a1], [.int ((I 93 10) - 1), .ref 101, .ref 93], (zS (up2 I 93 10 ((I 93 10) - 1)) J tg))) rfl ?_
      obtain ⟨c28, h⟩ := h
      refine Runs.to (c' := (63, [.ref 93, .int a1], [.int (I 101 (((I 93 10) - 1).toNatClampNeg)), .ref 93], (zS (up2 I 93 10 ((I 93 10) - 1)) J tg))) (Runs.ild rfl (show (101 : Nat) < 114 by decide) rfl c28) ?_
      refine Runs.sN 1 (c' := (64, [.ref 93, .int a1], [.int 0, .int (I 101 (((I 93 10) - 1).toNatClampNeg)), .ref 93], (zS (up2 I 93 10 ((I 93 10) - 1)) J tg))) rfl ?_
      obtain ⟨I19, J20, tg21, c29, h⟩ := h
      refine Runs.cl (cm := 219) (as := [.ref 93, .int (I 101 (((I 93 10) - 1).toNatClampNeg)), .int 0]) (rest := []) (r1 := (none, (zS I19 J20 tg21))) rfl (Nat.le_of_ble_eq_true rfl) c29 ?_
      refine Runs.as (c' := (67, [.ref 93, .int a1], [], (zS I19 J20 tg21))) rfl ?_
      refine Runs.sN 1 (c' := (0, [.ref 93, .int a1], [], (zS I19 J20 tg21))) rfl ?_
      exact h
    · rw [if_neg c27] at h
      refine Runs.brF (P := (I 101 (((I 93 10) - 1).toNatClampNeg)) = 21) (a := 43) (b := 23) (L := [.ref 93, .int a1]) (S := []) (z := (zS I J tg)) rfl c27 ?_
      refine Runs.sN 1 (c' := (24, [.ref 93, .int a1], [.int a1], (zS I J tg))) rfl ?_
      by_cases c30 : a1 = 0
      · rw [if_pos c30] at h
        refine Runs.brT (P := a1 = 0) (a := 70) (b := 27) (L := [.ref 93, .int a1]) (S := []) (z := (zS I J tg)) rfl c30 ?_
        subst h
        exact Runs.rt rfl
      · rw [if_neg c30] at h
        refine Runs.brF (P := a1 = 0) (a := 70) (b := 27) (L := [.ref 93, .int a1]) (S := []) (z := (zS I J tg)) rfl c30 ?_
        refine Runs.sN 6 (c' := (37, [.ref 93, .int a1], [.int ((I 93 10) - 1), .ref 101], (zS I J tg))) rfl ?_
        obtain ⟨c31, h⟩ := h
        refine Runs.to (c' := (38, [.ref 93, .int a1], [.int (I 101 (((I 93 10) - 1).toNatClampNeg))], (zS I J tg))) (Runs.ild rfl (show (101 : Nat) < 114 by decide) rfl c31) ?_
        refine Runs.sN 1 (c' := (40, [.ref 93, .int a1], [.int 22, .int (I 101 (((I 93 10) - 1).toNatClampNeg))], (zS I J tg))) rfl ?_
        by_cases c32 : (I 101 (((I 93 10) - 1).toNatClampNeg)) = 22
        · rw [if_pos c32] at h
          refine Runs.brT (P := (I 101 (((I 93 10) - 1).toNatClampNeg)) = 22) (a := 43) (b := 70) (L := [.ref 93, .int a1]) (S := []) (z := (zS I J tg)) rfl c32 ?_
          refine Runs.sN 11 (c' := (62, [.ref 93, .int a1], [.int ((I 93 10) - 1), .ref 101, .ref 93], (zS (up2 I 93 10 ((I 93 10) - 1)) J tg))) rfl ?_
          obtain ⟨c33, h⟩ := h
          refine Runs.to (c' := (63, [.ref 93, .int a1], [.int (I 101 (((I 93 10) - 1).toNatClampNeg)), .ref 93], (zS (up2 I 93 10 ((I 93 10) - 1)) J tg))) (Runs.ild rfl (show (101 : Nat) < 114 by decide) rfl c33) ?_
          refine Runs.sN 1 (c' := (64, [.ref 93, .int a1], [.int 0, .int (I 101 (((I 93 10) - 1).toNatClampNeg)), .ref 93], (zS (up2 I 93 10 ((I 93 10) - 1)) J tg))) rfl ?_
          obtain ⟨I22, J23, tg24, c34, h⟩ := h
          refine Runs.cl (cm := 219) (as := [.ref 93, .int (I 101 (((I 93 10) - 1).toNatClampNeg)), .int 0]) (rest := []) (r1 := (none, (zS I22 J23 tg24))) rfl (Nat.le_of_ble_eq_true rfl) c34 ?_
          refine Runs.as (c' := (67, [.ref 93, .int a1], [], (zS I22 J23 tg24))) rfl ?_
          refine Runs.sN 1 (c' := (0, [.ref 93, .int a1], [], (zS I22 J23 tg24))) rfl ?_
          exact h
        · rw [if_neg c32] at h
          refine Runs.brF (P := (I 101 (((I 93 10) - 1).toNatClampNeg)) = 22) (a := 43) (b := 70) (L := [.ref 93, .int a1]) (S := []) (z := (zS I J tg)) rfl c32 ?_
          subst h
          exact Runs.rt rfl
theorem sg_228_0 {L d : Nat} {xs : Nat → Int32} (I : Nat → Nat → Int32) (J : Nat → Nat → Int64) (tg : Option Nat) (x1 : Int32) {r : Option Value × SS} (h : ((if (I 93 10) ≤ 0 then (r = (none, (zS I J tg))) else (¬ (((I 93 10) - 1) < 0 ∨ 160 ≤ ((I 93 10) - 1).toNatClampNeg) ∧ (if (I 101 (((I 93 10) - 1).toNatClampNeg)) = 21 then (¬ (((I 93 10) - 1) < 0 ∨ 160 ≤ ((I 93 10) - 1).toNatClampNeg) ∧ ∃ (I1 : Nat → Nat → Int32) (J2 : Nat → Nat → Int64) (tg3 : Option Nat), Runs (GW L xs) d 219 (0, [.ref 93, .int (I 101 (((I 93 10) - 1).toNatClampNeg)), .int 0], [], (zS (up2 I 93 10 ((I 93 10) - 1)) J tg)) (none, (zS I1 J2 tg3)) ∧ Runs (GW L xs) (d + 1) 228 (0, [.ref 93, .int x1], [], (zS I1 J2 tg3)) r) else ((if x1 = 0 then (r = (none, (zS I J tg))) else (¬ (((I 93 10) - 1) < 0 ∨ 160 ≤ ((I 93 10) - 1).toNatClampNeg) ∧ (if (I 101 (((I 93 10) - 1).toNatClampNeg)) = 22 then (¬ (((I 93 10) - 1) < 0 ∨ 160 ≤ ((I 93 10) - 1).toNatClampNeg) ∧ ∃ (I4 : Nat → Nat → Int32) (J5 : Nat → Nat → Int64) (tg6 : Option Nat), Runs (GW L xs) d 219 (0, [.ref 93, .int (I 101 (((I 93 10) - 1).toNatClampNeg)), .int 0], [], (zS (up2 I 93 10 ((I 93 10) - 1)) J tg)) (none, (zS I4 J5 tg6)) ∧ Runs (GW L xs) (d + 1) 228 (0, [.ref 93, .int x1], [], (zS I4 J5 tg6)) r) else (r = (none, (zS I J tg)))))))))))) : Runs (GW L xs) (d + 1) 228 (0, [.ref 93, .int x1], [], (zS I J tg)) r := by
  refine Runs.sN 2 (c' := (4, [.ref 93, .int x1], [.int (I 93 10)], (zS I J tg))) rfl ?_
  by_cases c7 : (I 93 10) ≤ 0
  · rw [if_pos c7] at h
    refine Runs.brT (P := (I 93 10) ≤ 0) (a := 70) (b := 7) (L := [.ref 93, .int x1]) (S := []) (z := (zS I J tg)) rfl c7 ?_
    subst h
    exact Runs.rt rfl
  · rw [if_neg c7] at h
    refine Runs.brF (P := (I 93 10) ≤ 0) (a := 70) (b := 7) (L := [.ref 93, .int x1]) (S := []) (z := (zS I J tg)) rfl c7 ?_
    refine Runs.sN 6 (c' := (17, [.ref 93, .int x1], [.int ((I 93 10) - 1), .ref 101], (zS I J tg))) rfl ?_
    obtain ⟨c8, h⟩ := h
    refine Runs.to (c' := (18, [.ref 93, .int x1], [.int (I 101 (((I 93 10) - 1).toNatClampNeg))], (zS I J tg))) (Runs.ild rfl (show (101 : Nat) < 114 by decide) rfl c8) ?_
    refine Runs.sN 1 (c' := (20, [.ref 93, .int x1], [.int 21, .int (I 101 (((I 93 10) - 1).toNatClampNeg))], (zS I J tg))) rfl ?_
    by_cases c9 : (I 101 (((I 93 10) - 1).toNatClampNeg)) = 21
    · rw [if_pos c9] at h
      refine Runs.brT (P := (I 101 (((I 93 10) - 1).toNatClampNeg)) = 21) (a := 43) (b := 23) (L := [.ref 93, .int x1]) (S := []) (z := (zS I J tg)) rfl c9 ?_
      refine Runs.sN 11 (c' := (62, [.ref 93, .int x1], [.int ((I 93 10) - 1), .ref 101, .ref 93], (zS (up2 I 93 10 ((I 93 10) - 1)) J tg))) rfl ?_
      obtain ⟨c10, h⟩ := h
      refine Runs.to (c' := (63, [.ref 93, .int x1], [.int (I 101 (((I 93 10) - 1).toNatClampNeg)), .ref 93], (zS (up2 I 93 10 ((I 93 10) - 1)) J tg))) (Runs.ild rfl (show (101 : Nat) < 114 by decide) rfl c10) ?_
      refine Runs.sN 1 (c' := (64, [.ref 93, .int x1], [.int 0, .int (I 101 (((I 93 10) - 1).toNatClampNeg)), .ref 93], (zS (up2 I 93 10 ((I 93 10) - 1)) J tg))) rfl ?_
      obtain ⟨I1, J2, tg3, c11, h⟩ := h
      refine Runs.cl (cm := 219) (as := [.ref 93, .int (I 101 (((I 93 10) - 1).toNatClampNeg)), .int 0]) (rest := []) (r1 := (none, (zS I1 J2 tg3))) rfl (Nat.le_of_ble_eq_true rfl) c11 ?_
      refine Runs.as (c' := (67, [.ref 93, .int x1], [], (zS I1 J2 tg3))) rfl ?_
      refine Runs.sN 1 (c' := (0, [.ref 93, .int x1], [], (zS I1 J2 tg3))) rfl ?_
      exact h
    · rw [if_neg c9] at h
      refine Runs.brF (P := (I 101 (((I 93 10) - 1).toNatClampNeg)) = 21) (a := 43) (b := 23) (L := [.ref 93, .int x1]) (S := []) (z := (zS I J tg)) rfl c9 ?_
      refine Runs.sN 1 (c' := (24, [.ref 93, .int x1], [.int x1], (zS I J tg))) rfl ?_
      by_cases c12 : x1 = 0
      · rw [if_pos c12] at h
        refine Runs.brT (P := x1 = 0) (a := 70) (b := 27) (L := [.ref 93, .int x1]) (S := []) (z := (zS I J tg)) rfl c12 ?_
        subst h
        exact Runs.rt rfl
      · rw [if_neg c12] at h
        refine Runs.brF (P := x1 = 0) (a := 70) (b := 27) (L := [.ref 93, .int x1]) (S := []) (z := (zS I J tg)) rfl c12 ?_
        refine Runs.sN 6 (c' := (37, [.ref 93, .int x1], [.int ((I 93 10) - 1), .ref 101], (zS I J tg))) rfl ?_
        obtain ⟨c13, h⟩ := h
        refine Runs.to (c' := (38, [.ref 93, .int x1], [.int (I 101 (((I 93 10) - 1).toNatClampNeg))], (zS I J tg))) (Runs.ild rfl (show (101 : Nat) < 114 by decide) rfl c13) ?_
        refine Runs.sN 1 (c' := (40, [.ref 93, .int x1], [.int 22, .int (I 101 (((I 93 10) - 1).toNatClampNeg))], (zS I J tg))) rfl ?_
        by_cases c14 : (I 101 (((I 93 10) - 1).toNatClampNeg)) = 22
        · rw [if_pos c14] at h
          refine Runs.brT (P := (I 101 (((I 93 10) - 1).toNatClampNeg)) = 22) (a := 43) (b := 70) (L := [.ref 93, .int x1]) (S := []) (z := (zS I J tg)) rfl c14 ?_
          refine Runs.sN 11 (c' := (62, [.ref 93, .int x1], [.int ((I 93 10) - 1), .ref 101, .ref 93], (zS (up2 I 93 10 ((I 93 10) - 1)) J tg))) rfl ?_
          obtain ⟨c15, h⟩ := h
          refine Runs.to (c' := (63, [.ref 93, .int x1], [.int (I 101 (((I 93 10) - 1).toNatClampNeg)), .ref 93], (zS (up2 I 93 10 ((I 93 10) - 1)) J tg))) (Runs.ild rfl (show (101 : Nat) < 114 by decide) rfl c15) ?_
          refine Runs.sN 1 (c' := (64, [.ref 93, .int x1], [.int 0, .int (I 101 (((I 93 10) - 1).toNatClampNeg)), .ref 93], (zS (up2 I 93 10 ((I 93 10) - 1)) J tg))) rfl ?_
          obtain ⟨I4, J5, tg6, c16, h⟩ := h
          refine Runs.cl (cm := 219) (as := [.ref 93, .int (I 101 (((I 93 10) - 1).toNatClampNeg)), .int 0]) (rest := []) (r1 := (none, (zS I4 J5 tg6))) rfl (Nat.le_of_ble_eq_true rfl) c16 ?_
          refine Runs.as (c' := (67, [.ref 93, .int x1], [], (zS I4 J5 tg6))) rfl ?_
          refine Runs.sN 1 (c' := (0, [.ref 93, .int x1], [], (zS I4 J5 tg6))) rfl ?_
          exact h
        · rw [if_neg c14] at h
          refine Runs.brF (P := (I 101 (((I 93 10) - 1).toNatClampNeg)) = 22) (a := 43) (b := 70) (L := [.ref 93, .int x1]) (S := []) (z := (zS I J tg)) rfl c14 ?_
          subst h
          exact Runs.rt rfl
