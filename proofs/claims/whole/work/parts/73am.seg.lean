-- X12_nameOf 
theorem sg_220 {L d : Nat} {xs : Nat → Int32} (I : Nat → Nat → Int32) (J : Nat → Nat → Int64) (tg : Option Nat) {r : Option Value × SS} (h : ((if (I 93 15) = 2 then (∃ (v37 : Int64) (I38 : Nat → Nat → Int32) (J39 : Nat → Nat → Int64), Runs (GW L xs) d 215 (0, [.int 108, .int 105, .int 110, .int 101, .int 115], [], (zS I J tg)) ((some (.long v37)), (zS I38 J39 tg)) ∧ (if (lg_cmp (J 93 17) v37) = 0 then (r = (some (.int 0), (zS I38 J39 tg))) else (∃ (v40 : Int64) (I41 : Nat → Nat → Int32) (J42 : Nat → Nat → Int64), Runs (GW L xs) d 217 (0, [.int 99, .int 105, .int 114, .int 99, .int 108, .int 101], [], (zS I38 J39 tg)) ((some (.long v40)), (zS I41 J42 tg)) ∧ (if (lg_cmp (J39 93 17) ((v40 <<< (Int32.toInt64 8 &&& 63)) ||| 115)) = 0 then (r = (some (.int 1), (zS I41 J42 tg))) else (∃ (v43 : Int64) (I44 : Nat → Nat → Int32) (J45 : Nat → Nat → Int64), Runs (GW L xs) d 216 (0, [.int 98, .int 97, .int 114, .int 115], [], (zS I41 J42 tg)) ((some (.long v43)), (zS I44 J45 tg)) ∧ (if (lg_cmp (J42 93 17) v43) = 0 then (r = (some (.int 2), (zS I44 J45 tg))) else (∃ (v46 : Int64) (I47 : Nat → Nat → Int32) (J48 : Nat → Nat → Int64), Runs (GW L xs) d 217 (0, [.int 97, .int 114, .int 114, .int 111, .int 119, .int 115], [], (zS I44 J45 tg)) ((some (.long v46)), (zS I47 J48 tg)) ∧ (if (lg_cmp (J45 93 17) v46) = 0 then (r = (some (.int 3), (zS I47 J48 tg))) else (∃ (v49 : Int64) (I50 : Nat → Nat → Int32) (J51 : Nat → Nat → Int64), Runs (GW L xs) d 215 (0, [.int 102, .int 105, .int 108, .int 108, .int 115], [], (zS I47 J48 tg)) ((some (.long v49)), (zS I50 J51 tg)) ∧ (if (lg_cmp (J48 93 17) v49) = 0 then (r = (some (.int 4), (zS I50 J51 tg))) else (∃ (v52 : Int64) (I53 : Nat → Nat → Int32) (J54 : Nat → Nat → Int64), Runs (GW L xs) d 215 (0, [.int 112, .int 97, .int 114, .int 116, .int 115], [], (zS I50 J51 tg)) ((some (.long v52)), (zS I53 J54 tg)) ∧ (if (lg_cmp (J51 93 17) v52) = 0 then (r = (some (.int 5), (zS I53 J54 tg))) else (∃ (v55 : Int64) (I56 : Nat → Nat → Int32) (J57 : Nat → Nat → Int64), Runs (GW L xs) d 217 (0, [.int 99, .int 111, .int 108, .int 111, .int 117, .int 114], [], (zS I53 J54 tg)) ((some (.long v55)), (zS I56 J57 tg)) ∧ (if (lg_cmp (J54 93 17) v55) = 0 then (r = (some (.int 6), (zS I56 J57 tg))) else (∃ (v58 : Int64) (I59 : Nat → Nat → Int32) (J60 : Nat → Nat → Int64), Runs (GW L xs) d 215 (0, [.int 109, .int 101, .int 97, .int 110, .int 115], [], (zS I56 J57 tg)) ((some (.long v58)), (zS I59 J60 tg)) ∧ (if (lg_cmp (J57 93 17) v58) = 0 then (r = (some (.int 7), (zS I59 J60 tg))) else (∃ (v61 : Int64) (I62 : Nat → Nat → Int32) (J63 : Nat → Nat → Int64), Runs (GW L xs) d 216 (0, [.int 116, .int 111, .int 111, .int 107], [], (zS I59 J60 tg)) ((some (.long v61)), (zS I62 J63 tg)) ∧ (if (lg_cmp (J60 93 17) v61) = 0 then (r = (some (.int 8), (zS I62 J63 tg))) else (∃ (v64 : Int64) (I65 : Nat → Nat → Int32) (J66 : Nat → Nat → Int64), Runs (GW L xs) d 217 (0, [.int 116, .int 117, .int 114, .int 110, .int 101, .int 100], [], (zS I62 J63 tg)) ((some (.long v64)), (zS I65 J66 tg)) ∧ (if (lg_cmp (J63 93 17) v64) = 0 then (r = (some (.int 9), (zS I65 J66 tg))) else (∃ (v67 : Int64) (I68 : Nat → Nat → Int32) (J69 : Nat → Nat → Int64), Runs (GW L xs) d 216 (0, [.int 108, .int 97, .int 110, .int 100], [], (zS I65 J66 tg)) ((some (.long v67)), (zS I68 J69 tg)) ∧ (if (lg_cmp (J66 93 17) v67) = 0 then (r = (some (.int 10), (zS I68 J69 tg))) else (∃ (v70 : Int64) (I71 : Nat → Nat → Int32) (J72 : Nat → Nat → Int64), Runs (GW L xs) d 216 (0, [.int 115, .int 105, .int 116, .int 101], [], (zS I68 J69 tg)) ((some (.long v70)), (zS I71 J72 tg)) ∧ (if (lg_cmp (J69 93 17) v70) = 0 then (r = (some (.int 11), (zS I71 J72 tg))) else (r = (some (.int (-1)), (zS I71 J72 tg))))))))))))))))))))))))))) else (r = (some (.int (-1)), (zS I J tg)))))) : Runs (GW L xs) (d + 1) 220 (0, [.ref 93], [], (zS I J tg)) r := by
  refine Runs.sN 3 (c' := (5, [.ref 93], [.int 2, .int (I 93 15)], (zS I J tg))) rfl ?_
  by_cases c73 : (I 93 15) = 2
  · rw [if_pos c73] at h
    refine Runs.brT (P := (I 93 15) = 2) (a := 10) (b := 8) (L := [.ref 93]) (S := []) (z := (zS I J tg)) rfl c73 ?_
    refine Runs.sN 7 (c' := (24, [.ref 93], [.int 115, .int 101, .int 110, .int 105, .int 108, .long (J 93 17)], (zS I J tg))) rfl ?_
    obtain ⟨v37, I38, J39, c74, h⟩ := h
    refine Runs.cl (cm := 215) (as := [.int 108, .int 105, .int 110, .int 101, .int 115]) (rest := [.long (J 93 17)]) (r1 := ((some (.long v37)), (zS I38 J39 tg))) rfl (Nat.le_of_ble_eq_true rfl) c74 ?_
    refine Runs.as (c' := (27, [.ref 93], [.long v37, .long (J 93 17)], (zS I38 J39 tg))) rfl ?_
    refine Runs.sN 1 (c' := (28, [.ref 93], [.int (lg_cmp (J 93 17) v37)], (zS I38 J39 tg))) rfl ?_
    by_cases c75 : (lg_cmp (J 93 17) v37) = 0
    · rw [if_pos c75] at h
      refine Runs.brT (P := (lg_cmp (J 93 17) v37) = 0) (a := 31) (b := 33) (L := [.ref 93]) (S := []) (z := (zS I38 J39 tg)) rfl c75 ?_
      refine Runs.sN 1 (c' := (32, [.ref 93], [.int 0], (zS I38 J39 tg))) rfl ?_
      subst h
      exact Runs.rt rfl
    · rw [if_neg c75] at h
      refine Runs.brF (P := (lg_cmp (J 93 17) v37) = 0) (a := 31) (b := 33) (L := [.ref 93]) (S := []) (z := (zS I38 J39 tg)) rfl c75 ?_
      refine Runs.sN 8 (c' := (49, [.ref 93], [.int 101, .int 108, .int 99, .int 114, .int 105, .int 99, .long (J39 93 17)], (zS I38 J39 tg))) rfl ?_
      obtain ⟨v40, I41, J42, c76, h⟩ := h
      refine Runs.cl (cm := 217) (as := [.int 99, .int 105, .int 114, .int 99, .int 108, .int 101]) (rest := [.long (J39 93 17)]) (r1 := ((some (.long v40)), (zS I41 J42 tg))) rfl (Nat.le_of_ble_eq_true rfl) c76 ?_
      refine Runs.as (c' := (52, [.ref 93], [.long v40, .long (J39 93 17)], (zS I41 J42 tg))) rfl ?_
      refine Runs.sN 5 (c' := (60, [.ref 93], [.int (lg_cmp (J39 93 17) ((v40 <<< (Int32.toInt64 8 &&& 63)) ||| 115))], (zS I41 J42 tg))) rfl ?_
      by_cases c77 : (lg_cmp (J39 93 17) ((v40 <<< (Int32.toInt64 8 &&& 63)) ||| 115)) = 0
      · rw [if_pos c77] at h
        refine Runs.brT (P := (lg_cmp (J39 93 17) ((v40 <<< (Int32.toInt64 8 &&& 63)) ||| 115)) = 0) (a := 63) (b := 65) (L := [.ref 93]) (S := []) (z := (zS I41 J42 tg)) rfl c77 ?_
        refine Runs.sN 1 (c' := (64, [.ref 93], [.int 1], (zS I41 J42 tg))) rfl ?_
        subst h
        exact Runs.rt rfl
      · rw [if_neg c77] at h
        refine Runs.brF (P := (lg_cmp (J39 93 17) ((v40 <<< (Int32.toInt64 8 &&& 63)) ||| 115)) = 0) (a := 63) (b := 65) (L := [.ref 93]) (S := []) (z := (zS I41 J42 tg)) rfl c77 ?_
        refine Runs.sN 6 (c' := (77, [.ref 93], [.int 115, .int 114, .int 97, .int 98, .long (J42 93 17)], (zS I41 J42 tg))) rfl ?_
        obtain ⟨v43, I44, J45, c78, h⟩ := h
        refine Runs.cl (cm := 216) (as := [.int 98, .int 97, .int 114, .int 115]) (rest := [.long (J42 93 17)]) (r1 := ((some (.long v43)), (zS I44 J45 tg))) rfl (Nat.le_of_ble_eq_true rfl) c78 ?_
        refine Runs.as (c' := (80, [.ref 93], [.long v43, .long (J42 93 17)], (zS I44 J45 tg))) rfl ?_
        refine Runs.sN 1 (c' := (81, [.ref 93], [.int (lg_cmp (J42 93 17) v43)], (zS I44 J45 tg))) rfl ?_
        by_cases c79 : (lg_cmp (J42 93 17) v43) = 0
        · rw [if_pos c79] at h
          refine Runs.brT (P := (lg_cmp (J42 93 17) v43) = 0) (a := 84) (b := 86) (L := [.ref 93]) (S := []) (z := (zS I44 J45 tg)) rfl c79 ?_
          refine Runs.sN 1 (c' := (85, [.ref 93], [.int 2], (zS I44 J45 tg))) rfl ?_
          subst h
          exact Runs.rt rfl
        · rw [if_neg c79] at h
          refine Runs.brF (P := (lg_cmp (J42 93 17) v43) = 0) (a := 84) (b := 86) (L := [.ref 93]) (S := []) (z := (zS I44 J45 tg)) rfl c79 ?_
          refine Runs.sN 8 (c' := (102, [.ref 93], [.int 115, .int 119, .int 111, .int 114, .int 114, .int 97, .long (J45 93 17)], (zS I44 J45 tg))) rfl ?_
          obtain ⟨v46, I47, J48, c80, h⟩ := h
          refine Runs.cl (cm := 217) (as := [.int 97, .int 114, .int 114, .int 111, .int 119, .int 115]) (rest := [.long (J45 93 17)]) (r1 := ((some (.long v46)), (zS I47 J48 tg))) rfl (Nat.le_of_ble_eq_true rfl) c80 ?_
          refine Runs.as (c' := (105, [.ref 93], [.long v46, .long (J45 93 17)], (zS I47 J48 tg))) rfl ?_
          refine Runs.sN 1 (c' := (106, [.ref 93], [.int (lg_cmp (J45 93 17) v46)], (zS I47 J48 tg))) rfl ?_
          by_cases c81 : (lg_cmp (J45 93 17) v46) = 0
          · rw [if_pos c81] at h
            refine Runs.brT (P := (lg_cmp (J45 93 17) v46) = 0) (a := 109) (b := 111) (L := [.ref 93]) (S := []) (z := (zS I47 J48 tg)) rfl c81 ?_
            refine Runs.sN 1 (c' := (110, [.ref 93], [.int 3], (zS I47 J48 tg))) rfl ?_
            subst h
            exact Runs.rt rfl
          · rw [if_neg c81] at h
            refine Runs.brF (P := (lg_cmp (J45 93 17) v46) = 0) (a := 109) (b := 111) (L := [.ref 93]) (S := []) (z := (zS I47 J48 tg)) rfl c81 ?_
            refine Runs.sN 7 (c' := (125, [.ref 93], [.int 115, .int 108, .int 108, .int 105, .int 102, .long (J48 93 17)], (zS I47 J48 tg))) rfl ?_
            obtain ⟨v49, I50, J51, c82, h⟩ := h
            refine Runs.cl (cm := 215) (as := [.int 102, .int 105, .int 108, .int 108, .int 115]) (rest := [.long (J48 93 17)]) (r1 := ((some (.long v49)), (zS I50 J51 tg))) rfl (Nat.le_of_ble_eq_true rfl) c82 ?_
            refine Runs.as (c' := (128, [.ref 93], [.long v49, .long (J48 93 17)], (zS I50 J51 tg))) rfl ?_
            refine Runs.sN 1 (c' := (129, [.ref 93], [.int (lg_cmp (J48 93 17) v49)], (zS I50 J51 tg))) rfl ?_
            by_cases c83 : (lg_cmp (J48 93 17) v49) = 0
            · rw [if_pos c83] at h
              refine Runs.brT (P := (lg_cmp (J48 93 17) v49) = 0) (a := 132) (b := 134) (L := [.ref 93]) (S := []) (z := (zS I50 J51 tg)) rfl c83 ?_
              refine Runs.sN 1 (c' := (133, [.ref 93], [.int 4], (zS I50 J51 tg))) rfl ?_
              subst h
              exact Runs.rt rfl
            · rw [if_neg c83] at h
              refine Runs.brF (P := (lg_cmp (J48 93 17) v49) = 0) (a := 132) (b := 134) (L := [.ref 93]) (S := []) (z := (zS I50 J51 tg)) rfl c83 ?_
              refine Runs.sN 7 (c' := (148, [.ref 93], [.int 115, .int 116, .int 114, .int 97, .int 112, .long (J51 93 17)], (zS I50 J51 tg))) rfl ?_
              obtain ⟨v52, I53, J54, c84, h⟩ := h
              refine Runs.cl (cm := 215) (as := [.int 112, .int 97, .int 114, .int 116, .int 115]) (rest := [.long (J51 93 17)]) (r1 := ((some (.long v52)), (zS I53 J54 tg))) rfl (Nat.le_of_ble_eq_true rfl) c84 ?_
              refine Runs.as (c' := (151, [.ref 93], [.long v52, .long (J51 93 17)], (zS I53 J54 tg))) rfl ?_
              refine Runs.sN 1 (c' := (152, [.ref 93], [.int (lg_cmp (J51 93 17) v52)], (zS I53 J54 tg))) rfl ?_
              by_cases c85 : (lg_cmp (J51 93 17) v52) = 0
              · rw [if_pos c85] at h
                refine Runs.brT (P := (lg_cmp (J51 93 17) v52) = 0) (a := 155) (b := 157) (L := [.ref 93]) (S := []) (z := (zS I53 J54 tg)) rfl c85 ?_
                refine Runs.sN 1 (c' := (156, [.ref 93], [.int 5], (zS I53 J54 tg))) rfl ?_
                subst h
                exact Runs.rt rfl
              · rw [if_neg c85] at h
                refine Runs.brF (P := (lg_cmp (J51 93 17) v52) = 0) (a := 155) (b := 157) (L := [.ref 93]) (S := []) (z := (zS I53 J54 tg)) rfl c85 ?_
                refine Runs.sN 8 (c' := (173, [.ref 93], [.int 114, .int 117, .int 111, .int 108, .int 111, .int 99, .long (J54 93 17)], (zS I53 J54 tg))) rfl ?_
                obtain ⟨v55, I56, J57, c86, h⟩ := h
                refine Runs.cl (cm := 217) (as := [.int 99, .int 111, .int 108, .int 111, .int 117, .int 114]) (rest := [.long (J54 93 17)]) (r1 := ((some (.long v55)), (zS I56 J57 tg))) rfl (Nat.le_of_ble_eq_true rfl) c86 ?_
                refine Runs.as (c' := (176, [.ref 93], [.long v55, .long (J54 93 17)], (zS I56 J57 tg))) rfl ?_
                refine Runs.sN 1 (c' := (177, [.ref 93], [.int (lg_cmp (J54 93 17) v55)], (zS I56 J57 tg))) rfl ?_
                by_cases c87 : (lg_cmp (J54 93 17) v55) = 0
                · rw [if_pos c87] at h
                  refine Runs.brT (P := (lg_cmp (J54 93 17) v55) = 0) (a := 180) (b := 183) (L := [.ref 93]) (S := []) (z := (zS I56 J57 tg)) rfl c87 ?_
                  refine Runs.sN 1 (c' := (182, [.ref 93], [.int 6], (zS I56 J57 tg))) rfl ?_
                  subst h
                  exact Runs.rt rfl
                · rw [if_neg c87] at h
                  refine Runs.brF (P := (lg_cmp (J54 93 17) v55) = 0) (a := 180) (b := 183) (L := [.ref 93]) (S := []) (z := (zS I56 J57 tg)) rfl c87 ?_
                  refine Runs.sN 7 (c' := (197, [.ref 93], [.int 115, .int 110, .int 97, .int 101, .int 109, .long (J57 93 17)], (zS I56 J57 tg))) rfl ?_
                  obtain ⟨v58, I59, J60, c88, h⟩ := h
                  refine Runs.cl (cm := 215) (as := [.int 109, .int 101, .int 97, .int 110, .int 115]) (rest := [.long (J57 93 17)]) (r1 := ((some (.long v58)), (zS I59 J60 tg))) rfl (Nat.le_of_ble_eq_true rfl) c88 ?_
                  refine Runs.as (c' := (200, [.ref 93], [.long v58, .long (J57 93 17)], (zS I59 J60 tg))) rfl ?_
                  refine Runs.sN 1 (c' := (201, [.ref 93], [.int (lg_cmp (J57 93 17) v58)], (zS I59 J60 tg))) rfl ?_
                  by_cases c89 : (lg_cmp (J57 93 17) v58) = 0
                  · rw [if_pos c89] at h
                    refine Runs.brT (P := (lg_cmp (J57 93 17) v58) = 0) (a := 204) (b := 207) (L := [.ref 93]) (S := []) (z := (zS I59 J60 tg)) rfl c89 ?_
                    refine Runs.sN 1 (c' := (206, [.ref 93], [.int 7], (zS I59 J60 tg))) rfl ?_
                    subst h
                    exact Runs.rt rfl
                  · rw [if_neg c89] at h
                    refine Runs.brF (P := (lg_cmp (J57 93 17) v58) = 0) (a := 204) (b := 207) (L := [.ref 93]) (S := []) (z := (zS I59 J60 tg)) rfl c89 ?_
                    refine Runs.sN 6 (c' := (219, [.ref 93], [.int 107, .int 111, .int 111, .int 116, .long (J60 93 17)], (zS I59 J60 tg))) rfl ?_
                    obtain ⟨v61, I62, J63, c90, h⟩ := h
                    refine Runs.cl (cm := 216) (as := [.int 116, .int 111, .int 111, .int 107]) (rest := [.long (J60 93 17)]) (r1 := ((some (.long v61)), (zS I62 J63 tg))) rfl (Nat.le_of_ble_eq_true rfl) c90 ?_
                    refine Runs.as (c' := (222, [.ref 93], [.long v61, .long (J60 93 17)], (zS I62 J63 tg))) rfl ?_
                    refine Runs.sN 1 (c' := (223, [.ref 93], [.int (lg_cmp (J60 93 17) v61)], (zS I62 J63 tg))) rfl ?_
                    by_cases c91 : (lg_cmp (J60 93 17) v61) = 0
                    · rw [if_pos c91] at h
                      refine Runs.brT (P := (lg_cmp (J60 93 17) v61) = 0) (a := 226) (b := 229) (L := [.ref 93]) (S := []) (z := (zS I62 J63 tg)) rfl c91 ?_
                      refine Runs.sN 1 (c' := (228, [.ref 93], [.int 8], (zS I62 J63 tg))) rfl ?_
                      subst h
                      exact Runs.rt rfl
                    · rw [if_neg c91] at h
                      refine Runs.brF (P := (lg_cmp (J60 93 17) v61) = 0) (a := 226) (b := 229) (L := [.ref 93]) (S := []) (z := (zS I62 J63 tg)) rfl c91 ?_
                      refine Runs.sN 8 (c' := (245, [.ref 93], [.int 100, .int 101, .int 110, .int 114, .int 117, .int 116, .long (J63 93 17)], (zS I62 J63 tg))) rfl ?_
                      obtain ⟨v64, I65, J66, c92, h⟩ := h
                      refine Runs.cl (cm := 217) (as := [.int 116, .int 117, .int 114, .int 110, .int 101, .int 100]) (rest := [.long (J63 93 17)]) (r1 := ((some (.long v64)), (zS I65 J66 tg))) rfl (Nat.le_of_ble_eq_true rfl) c92 ?_
                      refine Runs.as (c' := (248, [.ref 93], [.long v64, .long (J63 93 17)], (zS I65 J66 tg))) rfl ?_
                      refine Runs.sN 1 (c' := (249, [.ref 93], [.int (lg_cmp (J63 93 17) v64)], (zS I65 J66 tg))) rfl ?_
                      by_cases c93 : (lg_cmp (J63 93 17) v64) = 0
                      · rw [if_pos c93] at h
                        refine Runs.brT (P := (lg_cmp (J63 93 17) v64) = 0) (a := 252) (b := 255) (L := [.ref 93]) (S := []) (z := (zS I65 J66 tg)) rfl c93 ?_
                        refine Runs.sN 1 (c' := (254, [.ref 93], [.int 9], (zS I65 J66 tg))) rfl ?_
                        subst h
                        exact Runs.rt rfl
                      · rw [if_neg c93] at h
                        refine Runs.brF (P := (lg_cmp (J63 93 17) v64) = 0) (a := 252) (b := 255) (L := [.ref 93]) (S := []) (z := (zS I65 J66 tg)) rfl c93 ?_
                        refine Runs.sN 6 (c' := (267, [.ref 93], [.int 100, .int 110, .int 97, .int 108, .long (J66 93 17)], (zS I65 J66 tg))) rfl ?_
                        obtain ⟨v67, I68, J69, c94, h⟩ := h
                        refine Runs.cl (cm := 216) (as := [.int 108, .int 97, .int 110, .int 100]) (rest := [.long (J66 93 17)]) (r1 := ((some (.long v67)), (zS I68 J69 tg))) rfl (Nat.le_of_ble_eq_true rfl) c94 ?_
                        refine Runs.as (c' := (270, [.ref 93], [.long v67, .long (J66 93 17)], (zS I68 J69 tg))) rfl ?_
                        refine Runs.sN 1 (c' := (271, [.ref 93], [.int (lg_cmp (J66 93 17) v67)], (zS I68 J69 tg))) rfl ?_
                        by_cases c95 : (lg_cmp (J66 93 17) v67) = 0
                        · rw [if_pos c95] at h
                          refine Runs.brT (P := (lg_cmp (J66 93 17) v67) = 0) (a := 274) (b := 279) (L := [.ref 93]) (S := []) (z := (zS I68 J69 tg)) rfl c95 ?_
                          refine Runs.sN 2 (c' := (304, [.ref 93], [.int 10], (zS I68 J69 tg))) rfl ?_
                          subst h
                          exact Runs.rt rfl
                        · rw [if_neg c95] at h
                          refine Runs.brF (P := (lg_cmp (J66 93 17) v67) = 0) (a := 274) (b := 279) (L := [.ref 93]) (S := []) (z := (zS I68 J69 tg)) rfl c95 ?_
                          refine Runs.sN 6 (c' := (291, [.ref 93], [.int 101, .int 116, .int 105, .int 115, .long (J69 93 17)], (zS I68 J69 tg))) rfl ?_
                          obtain ⟨v70, I71, J72, c96, h⟩ := h
                          refine Runs.cl (cm := 216) (as := [.int 115, .int 105, .int 116, .int 101]) (rest := [.long (J69 93 17)]) (r1 := ((some (.long v70)), (zS I71 J72 tg))) rfl (Nat.le_of_ble_eq_true rfl) c96 ?_
                          refine Runs.as (c' := (294, [.ref 93], [.long v70, .long (J69 93 17)], (zS I71 J72 tg))) rfl ?_
                          refine Runs.sN 1 (c' := (295, [.ref 93], [.int (lg_cmp (J69 93 17) v70)], (zS I71 J72 tg))) rfl ?_
                          by_cases c97 : (lg_cmp (J69 93 17) v70) = 0
                          · rw [if_pos c97] at h
                            refine Runs.brT (P := (lg_cmp (J69 93 17) v70) = 0) (a := 298) (b := 303) (L := [.ref 93]) (S := []) (z := (zS I71 J72 tg)) rfl c97 ?_
                            refine Runs.sN 2 (c' := (304, [.ref 93], [.int 11], (zS I71 J72 tg))) rfl ?_
                            subst h
                            exact Runs.rt rfl
                          · rw [if_neg c97] at h
                            refine Runs.brF (P := (lg_cmp (J69 93 17) v70) = 0) (a := 298) (b := 303) (L := [.ref 93]) (S := []) (z := (zS I71 J72 tg)) rfl c97 ?_
                            refine Runs.sN 1 (c' := (304, [.ref 93], [.int (-1)], (zS I71 J72 tg))) rfl ?_
                            subst h
                            exact Runs.rt rfl
  · rw [if_neg c73] at h
    refine Runs.brF (P := (I 93 15) = 2) (a := 10) (b := 8) (L := [.ref 93]) (S := []) (z := (zS I J tg)) rfl c73 ?_
    refine Runs.sN 1 (c' := (9, [.ref 93], [.int (-1)], (zS I J tg))) rfl ?_
    subst h
    exact Runs.rt rfl
-- X12_push 
theorem sg_221 {L d : Nat} {xs : Nat → Int32} (I : Nat → Nat → Int32) (J : Nat → Nat → Int64) (tg : Option Nat) (a1 : Int32) {r : Option Value × SS} (h : (¬ ((I 93 23) < 0 ∨ 160 ≤ (I 93 23).toNatClampNeg) ∧ r = (none, (zS (up2 (up2 I 102 ((I 93 23).toNatClampNeg) a1) 93 23 ((I 93 23) + 1)) J tg)))) : Runs (GW L xs) d 221 (0, [.ref 93, .int a1], [], (zS I J tg)) r := by
  refine Runs.sN 5 (c' := (9, [.ref 93, .int a1], [.int a1, .int (I 93 23), .ref 102], (zS I J tg))) rfl ?_
  obtain ⟨c1, h⟩ := h
  refine Runs.to (c' := (10, [.ref 93, .int a1], [], (zS (up2 I 102 ((I 93 23).toNatClampNeg) a1) J tg))) (Runs.ist rfl (show (102 : Nat) < 114 by decide) rfl c1) ?_
  refine Runs.sN 6 (c' := (20, [.ref 93, .int a1], [], (zS (up2 (up2 I 102 ((I 93 23).toNatClampNeg) a1) 93 23 ((I 93 23) + 1)) J tg))) rfl ?_
  subst h
  exact Runs.rt rfl
-- X12_settle 
theorem sg_222 {L d : Nat} {xs : Nat → Int32} (I : Nat → Nat → Int32) (J : Nat → Nat → Int64) (tg : Option Nat) (a1 : Int32) {r : Option Value × SS} (h : ((if (I 93 23) ≤ 0 then (r = (none, (zS I J tg))) else (¬ (((I 93 23) - 1) < 0 ∨ 160 ≤ ((I 93 23) - 1).toNatClampNeg) ∧ (if (I 102 (((I 93 23) - 1).toNatClampNeg)) < a1 then (r = (none, (zS I J tg))) else (¬ (((I 93 23) - 1) < 0 ∨ 160 ≤ ((I 93 23) - 1).toNatClampNeg) ∧ ∃ (I7 : Nat → Nat → Int32) (J8 : Nat → Nat → Int64), Runs (GW L xs) d 219 (0, [.ref 93, .int (I 102 (((I 93 23) - 1).toNatClampNeg)), .int 0], [], (zS (up2 I 93 23 ((I 93 23) - 1)) J tg)) (none, (zS I7 J8 tg)) ∧ Runs (GW L xs) (d + 1) 222 (0, [.ref 93, .int a1], [], (zS I7 J8 tg)) r)))))) : Runs (GW L xs) (d + 1) 222 (0, [.ref 93, .int a1], [], (zS I J tg)) r := by
  refine Runs.sN 2 (c' := (4, [.ref 93, .int a1], [.int (I 93 23)], (zS I J tg))) rfl ?_
  by_cases c9 : (I 93 23) ≤ 0
  · rw [if_pos c9] at h
    refine Runs.brT (P := (I 93 23) ≤ 0) (a := 49) (b := 7) (L := [.ref 93, .int a1]) (S := []) (z := (zS I J tg)) rfl c9 ?_
    subst h
    exact Runs.rt rfl
  · rw [if_neg c9] at h
    refine Runs.brF (P := (I 93 23) ≤ 0) (a := 49) (b := 7) (L := [.ref 93, .int a1]) (S := []) (z := (zS I J tg)) rfl c9 ?_
    refine Runs.sN 6 (c' := (17, [.ref 93, .int a1], [.int ((I 93 23) - 1), .ref 102], (zS I J tg))) rfl ?_
    obtain ⟨c10, h⟩ := h
    refine Runs.to (c' := (18, [.ref 93, .int a1], [.int (I 102 (((I 93 23) - 1).toNatClampNeg))], (zS I J tg))) (Runs.ild rfl (show (102 : Nat) < 114 by decide) rfl c10) ?_
    refine Runs.sN 1 (c' := (19, [.ref 93, .int a1], [.int a1, .int (I 102 (((I 93 23) - 1).toNatClampNeg))], (zS I J tg))) rfl ?_
    by_cases c11 : (I 102 (((I 93 23) - 1).toNatClampNeg)) < a1
    · rw [if_pos c11] at h
      refine Runs.brT (P := (I 102 (((I 93 23) - 1).toNatClampNeg)) < a1) (a := 49) (b := 22) (L := [.ref 93, .int a1]) (S := []) (z := (zS I J tg)) rfl c11 ?_
      subst h
      exact Runs.rt rfl
    · rw [if_neg c11] at h
      refine Runs.brF (P := (I 102 (((I 93 23) - 1).toNatClampNeg)) < a1) (a := 49) (b := 22) (L := [.ref 93, .int a1]) (S := []) (z := (zS I J tg)) rfl c11 ?_
      refine Runs.sN 11 (c' := (41, [.ref 93, .int a1], [.int ((I 93 23) - 1), .ref 102, .ref 93], (zS (up2 I 93 23 ((I 93 23) - 1)) J tg))) rfl ?_
      obtain ⟨c12, h⟩ := h
      refine Runs.to (c' := (42, [.ref 93, .int a1], [.int (I 102 (((I 93 23) - 1).toNatClampNeg)), .ref 93], (zS (up2 I 93 23 ((I 93 23) - 1)) J tg))) (Runs.ild rfl (show (102 : Nat) < 114 by decide) rfl c12) ?_
      refine Runs.sN 1 (c' := (43, [.ref 93, .int a1], [.int 0, .int (I 102 (((I 93 23) - 1).toNatClampNeg)), .ref 93], (zS (up2 I 93 23 ((I 93 23) - 1)) J tg))) rfl ?_
      obtain ⟨I7, J8, c13, h⟩ := h
      refine Runs.cl (cm := 219) (as := [.ref 93, .int (I 102 (((I 93 23) - 1).toNatClampNeg)), .int 0]) (rest := []) (r1 := (none, (zS I7 J8 tg))) rfl (Nat.le_of_ble_eq_true rfl) c13 ?_
      refine Runs.as (c' := (46, [.ref 93, .int a1], [], (zS I7 J8 tg))) rfl ?_
      refine Runs.sN 1 (c' := (0, [.ref 93, .int a1], [], (zS I7 J8 tg))) rfl ?_
      exact h
theorem sg_222_0 {L d : Nat} {xs : Nat → Int32} (I : Nat → Nat → Int32) (J : Nat → Nat → Int64) (tg : Option Nat) (x1 : Int32) {r : Option Value × SS} (h : ((if (I 93 23) ≤ 0 then (r = (none, (zS I J tg))) else (¬ (((I 93 23) - 1) < 0 ∨ 160 ≤ ((I 93 23) - 1).toNatClampNeg) ∧ (if (I 102 (((I 93 23) - 1).toNatClampNeg)) < x1 then (r = (none, (zS I J tg))) else (¬ (((I 93 23) - 1) < 0 ∨ 160 ≤ ((I 93 23) - 1).toNatClampNeg) ∧ ∃ (I1 : Nat → Nat → Int32) (J2 : Nat → Nat → Int64), Runs (GW L xs) d 219 (0, [.ref 93, .int (I 102 (((I 93 23) - 1).toNatClampNeg)), .int 0], [], (zS (up2 I 93 23 ((I 93 23) - 1)) J tg)) (none, (zS I1 J2 tg)) ∧ Runs (GW L xs) (d + 1) 222 (0, [.ref 93, .int x1], [], (zS I1 J2 tg)) r)))))) : Runs (GW L xs) (d + 1) 222 (0, [.ref 93, .int x1], [], (zS I J tg)) r := by
  refine Runs.sN 2 (c' := (4, [.ref 93, .int x1], [.int (I 93 23)], (zS I J tg))) rfl ?_
  by_cases c3 : (I 93 23) ≤ 0
  · rw [if_pos c3] at h
    refine Runs.brT (P := (I 93 23) ≤ 0) (a := 49) (b := 7) (L := [.ref 93, .int x1]) (S := []) (z := (zS I J tg)) rfl c3 ?_
    subst h
    exact Runs.rt rfl
  · rw [if_neg c3] at h
    refine Runs.brF (P := (I 93 23) ≤ 0) (a := 49) (b := 7) (L := [.ref 93, .int x1]) (S := []) (z := (zS I J tg)) rfl c3 ?_
    refine Runs.sN 6 (c' := (17, [.ref 93, .int x1], [.int ((I 93 23) - 1), .ref 102], (zS I J tg))) rfl ?_
    obtain ⟨c4, h⟩ := h
    refine Runs.to (c' := (18, [.ref 93, .int x1], [.int (I 102 (((I 93 23) - 1).toNatClampNeg))], (zS I J tg))) (Runs.ild rfl (show (102 : Nat) < 114 by decide) rfl c4) ?_
    refine Runs.sN 1 (c' := (19, [.ref 93, .int x1], [.int x1, .int (I 102 (((I 93 23) - 1).toNatClampNeg))], (zS I J tg))) rfl ?_
    by_cases c5 : (I 102 (((I 93 23) - 1).toNatClampNeg)) < x1
    · rw [if_pos c5] at h
      refine Runs.brT (P := (I 102 (((I 93 23) - 1).toNatClampNeg)) < x1) (a := 49) (b := 22) (L := [.ref 93, .int x1]) (S := []) (z := (zS I J tg)) rfl c5 ?_
      subst h
      exact Runs.rt rfl
    · rw [if_neg c5] at h
      refine Runs.brF (P := (I 102 (((I 93 23) - 1).toNatClampNeg)) < x1) (a := 49) (b := 22) (L := [.ref 93, .int x1]) (S := []) (z := (zS I J tg)) rfl c5 ?_
      refine Runs.sN 11 (c' := (41, [.ref 93, .int x1], [.int ((I 93 23) - 1), .ref 102, .ref 93], (zS (up2 I 93 23 ((I 93 23) - 1)) J tg))) rfl ?_
      obtain ⟨c6, h⟩ := h
      refine Runs.to (c' := (42, [.ref 93, .int x1], [.int (I 102 (((I 93 23) - 1).toNatClampNeg)), .ref 93], (zS (up2 I 93 23 ((I 93 23) - 1)) J tg))) (Runs.ild rfl (show (102 : Nat) < 114 by decide) rfl c6) ?_
      refine Runs.sN 1 (c' := (43, [.ref 93, .int x1], [.int 0, .int (I 102 (((I 93 23) - 1).toNatClampNeg)), .ref 93], (zS (up2 I 93 23 ((I 93 23) - 1)) J tg))) rfl ?_
      obtain ⟨I1, J2, c7, h⟩ := h
      refine Runs.cl (cm := 219) (as := [.ref 93, .int (I 102 (((I 93 23) - 1).toNatClampNeg)), .int 0]) (rest := []) (r1 := (none, (zS I1 J2 tg))) rfl (Nat.le_of_ble_eq_true rfl) c7 ?_
      refine Runs.as (c' := (46, [.ref 93, .int x1], [], (zS I1 J2 tg))) rfl ?_
      refine Runs.sN 1 (c' := (0, [.ref 93, .int x1], [], (zS I1 J2 tg))) rfl ?_
      exact h
-- X12_beginOne 
theorem sg_223 {L d : Nat} {xs : Nat → Int32} (I : Nat → Nat → Int32) (J : Nat → Nat → Int64) (tg : Option Nat) {r : Option Value × SS} (h : ((if (I 93 15) = 45 then ((if (I 93 24) = 8 then (r = (some (.int 3), (zS I J tg))) else (∃ (I41 : Nat → Nat → Int32) (J42 : Nat → Nat → Int64), Runs (GW L xs) d 221 (0, [.ref 93, .int 2], [], (zS (up2 I 93 24 ((I 93 24) + 1)) J tg)) (none, (zS I41 J42 tg)) ∧ ∃ (I43 : Nat → Nat → Int32) (J44 : Nat → Nat → Int64), Runs (GW L xs) d 213 (0, [.ref 93, vU, vU], [], (zS I41 J42 tg)) (none, (zS I43 J44 tg)) ∧ r = (some (.int 0), (zS I43 J44 tg))))) else ((if (I 93 15) = 1 then ((if (I 93 16) ≤ 9999 then (∃ (I45 : Nat → Nat → Int32) (J46 : Nat → Nat → Int64), Runs (GW L xs) d 219 (0, [.ref 93, .int 0, .int (I 93 16)], [], (zS I J tg)) (none, (zS I45 J46 tg)) ∧ ∃ (I47 : Nat → Nat → Int32) (J48 : Nat → Nat → Int64), Runs (GW L xs) d 213 (0, [.ref 93, vU, vU], [], (zS I45 J46 tg)) (none, (zS I47 J48 tg)) ∧ Runs (GW L xs) (d + 1) 223 (115, [.ref 93, vU], [], (zS (up2 I47 93 25 1) J48 tg)) r) else (r = (some (.int 2), (zS I J tg))))) else (∃ (v49 : Int32) (I50 : Nat → Nat → Int32) (J51 : Nat → Nat → Int64), Runs (GW L xs) d 220 (0, [.ref 93], [], (zS I J tg)) ((some (.int v49)), (zS I50 J51 tg)) ∧ (if 0 ≤ v49 then ((if v49 ≤ 7 then (∃ (I52 : Nat → Nat → Int32) (J53 : Nat → Nat → Int64), Runs (GW L xs) d 219 (0, [.ref 93, .int 1, .int v49], [], (zS I50 J51 tg)) (none, (zS I52 J53 tg)) ∧ ∃ (I54 : Nat → Nat → Int32) (J55 : Nat → Nat → Int64), Runs (GW L xs) d 213 (0, [.ref 93, vU, vU], [], (zS I52 J53 tg)) (none, (zS I54 J55 tg)) ∧ Runs (GW L xs) (d + 1) 223 (115, [.ref 93, vU], [], (zS (up2 I54 93 25 1) J55 tg)) r) else ((if (I50 93 8) = 3 then (∃ (I56 : Nat → Nat → Int32) (J57 : Nat → Nat → Int64), Runs (GW L xs) d 219 (0, [.ref 93, .int 1, .int v49], [], (zS I50 J51 tg)) (none, (zS I56 J57 tg)) ∧ ∃ (I58 : Nat → Nat → Int32) (J59 : Nat → Nat → Int64), Runs (GW L xs) d 213 (0, [.ref 93, vU, vU], [], (zS I56 J57 tg)) (none, (zS I58 J59 tg)) ∧ Runs (GW L xs) (d + 1) 223 (115, [.ref 93, vU], [], (zS (up2 I58 93 25 1) J59 tg)) r) else (r = (some (.int 5), (zS I50 J51 tg))))))) else (r = (some (.int 1), (zS I50 J51 tg)))))))))) : Runs (GW L xs) (d + 1) 223 (0, [.ref 93, vU], [], (zS I J tg)) r := by
  refine Runs.sN 3 (c' := (6, [.ref 93, vU], [.int 45, .int (I 93 15)], (zS I J tg))) rfl ?_
  by_cases c60 : (I 93 15) = 45
  · rw [if_pos c60] at h
    refine Runs.brT (P := (I 93 15) = 45) (a := 9) (b := 41) (L := [.ref 93, vU]) (S := []) (z := (zS I J tg)) rfl c60 ?_
    refine Runs.sN 3 (c' := (15, [.ref 93, vU], [.int 8, .int (I 93 24)], (zS I J tg))) rfl ?_
    by_cases c61 : (I 93 24) = 8
    · rw [if_pos c61] at h
      refine Runs.brT (P := (I 93 24) = 8) (a := 18) (b := 20) (L := [.ref 93, vU]) (S := []) (z := (zS I J tg)) rfl c61 ?_
      refine Runs.sN 1 (c' := (19, [.ref 93, vU], [.int 3], (zS I J tg))) rfl ?_
      subst h
      exact Runs.rt rfl
    · rw [if_neg c61] at h
      refine Runs.brF (P := (I 93 24) = 8) (a := 18) (b := 20) (L := [.ref 93, vU]) (S := []) (z := (zS I J tg)) rfl c61 ?_
      refine Runs.sN 8 (c' := (32, [.ref 93, vU], [.int 2, .ref 93], (zS (up2 I 93 24 ((I 93 24) + 1)) J tg))) rfl ?_
      obtain ⟨I41, J42, c62, h⟩ := h
      refine Runs.cl (cm := 221) (as := [.ref 93, .int 2]) (rest := []) (r1 := (none, (zS I41 J42 tg))) rfl (Nat.le_of_ble_eq_true rfl) c62 ?_
      refine Runs.as (c' := (35, [.ref 93, vU], [], (zS I41 J42 tg))) rfl ?_
      refine Runs.sN 1 (c' := (36, [.ref 93, vU], [.ref 93], (zS I41 J42 tg))) rfl ?_
      obtain ⟨I43, J44, c63, h⟩ := h
      refine Runs.cl (cm := 213) (as := [.ref 93]) (rest := []) (r1 := (none, (zS I43 J44 tg))) rfl (Nat.le_of_ble_eq_true rfl) c63 ?_
      refine Runs.as (c' := (39, [.ref 93, vU], [], (zS I43 J44 tg))) rfl ?_
      refine Runs.sN 1 (c' := (40, [.ref 93, vU], [.int 0], (zS I43 J44 tg))) rfl ?_
      subst h
      exact Runs.rt rfl
  · rw [if_neg c60] at h
    refine Runs.brF (P := (I 93 15) = 45) (a := 9) (b := 41) (L := [.ref 93, vU]) (S := []) (z := (zS I J tg)) rfl c60 ?_
    refine Runs.sN 3 (c' := (46, [.ref 93, vU], [.int 1, .int (I 93 15)], (zS I J tg))) rfl ?_
    by_cases c64 : (I 93 15) = 1
    · rw [if_pos c64] at h
      refine Runs.brT (P := (I 93 15) = 1) (a := 49) (b := 73) (L := [.ref 93, vU]) (S := []) (z := (zS I J tg)) rfl c64 ?_
      refine Runs.sN 3 (c' := (56, [.ref 93, vU], [.int 9999, .int (I 93 16)], (zS I J tg))) rfl ?_
      by_cases c65 : (I 93 16) ≤ 9999
      · rw [if_pos c65] at h
        refine Runs.brT (P := (I 93 16) ≤ 9999) (a := 61) (b := 59) (L := [.ref 93, vU]) (S := []) (z := (zS I J tg)) rfl c65 ?_
        refine Runs.sN 4 (c' := (67, [.ref 93, vU], [.int (I 93 16), .int 0, .ref 93], (zS I J tg))) rfl ?_
        obtain ⟨I45, J46, c66, h⟩ := h
        refine Runs.cl (cm := 219) (as := [.ref 93, .int 0, .int (I 93 16)]) (rest := []) (r1 := (none, (zS I45 J46 tg))) rfl (Nat.le_of_ble_eq_true rfl) c66 ?_
        refine Runs.as (c' := (70, [.ref 93, vU], [], (zS I45 J46 tg))) rfl ?_
        refine Runs.sN 2 (c' := (107, [.ref 93, vU], [.ref 93], (zS I45 J46 tg))) rfl ?_
        obtain ⟨I47, J48, c67, h⟩ := h
        refine Runs.cl (cm := 213) (as := [.ref 93]) (rest := []) (r1 := (none, (zS I47 J48 tg))) rfl (Nat.le_of_ble_eq_true rfl) c67 ?_
        refine Runs.as (c' := (110, [.ref 93, vU], [], (zS I47 J48 tg))) rfl ?_
        refine Runs.sN 3 (c' := (115, [.ref 93, vU], [], (zS (up2 I47 93 25 1) J48 tg))) rfl ?_
        exact h
      · rw [if_neg c65] at h
        refine Runs.brF (P := (I 93 16) ≤ 9999) (a := 61) (b := 59) (L := [.ref 93, vU]) (S := []) (z := (zS I J tg)) rfl c65 ?_
        refine Runs.sN 1 (c' := (60, [.ref 93, vU], [.int 2], (zS I J tg))) rfl ?_
        subst h
        exact Runs.rt rfl
    · rw [if_neg c64] at h
      refine Runs.brF (P := (I 93 15) = 1) (a := 49) (b := 73) (L := [.ref 93, vU]) (S := []) (z := (zS I J tg)) rfl c64 ?_
      refine Runs.sN 1 (c' := (74, [.ref 93, vU], [.ref 93], (zS I J tg))) rfl ?_
      obtain ⟨v49, I50, J51, c68, h⟩ := h
      refine Runs.cl (cm := 220) (as := [.ref 93]) (rest := []) (r1 := ((some (.int v49)), (zS I50 J51 tg))) rfl (Nat.le_of_ble_eq_true rfl) c68 ?_
      refine Runs.as (c' := (77, [.ref 93, vU], [.int v49], (zS I50 J51 tg))) rfl ?_
      refine Runs.sN 2 (c' := (79, [.ref 93, .int v49], [.int v49], (zS I50 J51 tg))) rfl ?_
      by_cases c69 : 0 ≤ v49
      · rw [if_pos c69] at h
        refine Runs.brT (P := 0 ≤ v49) (a := 84) (b := 82) (L := [.ref 93, .int v49]) (S := []) (z := (zS I50 J51 tg)) rfl c69 ?_
        refine Runs.sN 2 (c' := (87, [.ref 93, .int v49], [.int 7, .int v49], (zS I50 J51 tg))) rfl ?_
        by_cases c70 : v49 ≤ 7
        · rw [if_pos c70] at h
          refine Runs.brT (P := v49 ≤ 7) (a := 100) (b := 90) (L := [.ref 93, .int v49]) (S := []) (z := (zS I50 J51 tg)) rfl c70 ?_
          refine Runs.sN 3 (c' := (103, [.ref 93, .int v49], [.int v49, .int 1, .ref 93], (zS I50 J51 tg))) rfl ?_
          obtain ⟨I52, J53, c71, h⟩ := h
          refine Runs.cl (cm := 219) (as := [.ref 93, .int 1, .int v49]) (rest := []) (r1 := (none, (zS I52 J53 tg))) rfl (Nat.le_of_ble_eq_true rfl) c71 ?_
          refine Runs.as (c' := (106, [.ref 93, .int v49], [], (zS I52 J53 tg))) rfl ?_
          refine Runs.sN 1 (c' := (107, [.ref 93, .int v49], [.ref 93], (zS I52 J53 tg))) rfl ?_
          obtain ⟨I54, J55, c72, h⟩ := h
          refine Runs.cl (cm := 213) (as := [.ref 93]) (rest := []) (r1 := (none, (zS I54 J55 tg))) rfl (Nat.le_of_ble_eq_true rfl) c72 ?_
          refine Runs.as (c' := (110, [.ref 93, .int v49], [], (zS I54 J55 tg))) rfl ?_
          refine Runs.sN 3 (c' := (115, [.ref 93, .int v49], [], (zS (up2 I54 93 25 1) J55 tg))) rfl ?_
          exact Runs.weak (L := [.ref 93, vU]) (Lle.k (Lle.u Lle.n)) h
        · rw [if_neg c70] at h
          refine Runs.brF (P := v49 ≤ 7) (a := 100) (b := 90) (L := [.ref 93, .int v49]) (S := []) (z := (zS I50 J51 tg)) rfl c70 ?_
          refine Runs.sN 3 (c' := (95, [.ref 93, .int v49], [.int 3, .int (I50 93 8)], (zS I50 J51 tg))) rfl ?_
          by_cases c73 : (I50 93 8) = 3
          · rw [if_pos c73] at h
            refine Runs.brT (P := (I50 93 8) = 3) (a := 100) (b := 98) (L := [.ref 93, .int v49]) (S := []) (z := (zS I50 J51 tg)) rfl c73 ?_
            refine Runs.sN 3 (c' := (103, [.ref 93, .int v49], [.int v49, .int 1, .ref 93], (zS I50 J51 tg))) rfl ?_
            obtain ⟨I56, J57, c74, h⟩ := h
            refine Runs.cl (cm := 219) (as := [.ref 93, .int 1, .int v49]) (rest := []) (r1 := (none, (zS I56 J57 tg))) rfl (Nat.le_of_ble_eq_true rfl) c74 ?_
            refine Runs.as (c' := (106, [.ref 93, .int v49], [], (zS I56 J57 tg))) rfl ?_
            refine Runs.sN 1 (c' := (107, [.ref 93, .int v49], [.ref 93], (zS I56 J57 tg))) rfl ?_
            obtain ⟨I58, J59, c75, h⟩ := h
            refine Runs.cl (cm := 213) (as := [.ref 93]) (rest := []) (r1 := (none, (zS I58 J59 tg))) rfl (Nat.le_of_ble_eq_true rfl) c75 ?_
            refine Runs.as (c' := (110, [.ref 93, .int v49], [], (zS I58 J59 tg))) rfl ?_
            refine Runs.sN 3 (c' := (115, [.ref 93, .int v49], [], (zS (up2 I58 93 25 1) J59 tg))) rfl ?_
            exact Runs.weak (L := [.ref 93, vU]) (Lle.k (Lle.u Lle.n)) h
          · rw [if_neg c73] at h
            refine Runs.brF (P := (I50 93 8) = 3) (a := 100) (b := 98) (L := [.ref 93, .int v49]) (S := []) (z := (zS I50 J51 tg)) rfl c73 ?_
            refine Runs.sN 1 (c' := (99, [.ref 93, .int v49], [.int 5], (zS I50 J51 tg))) rfl ?_
            subst h
            exact Runs.rt rfl
      · rw [if_neg c69] at h
        refine Runs.brF (P := 0 ≤ v49) (a := 84) (b := 82) (L := [.ref 93, .int v49]) (S := []) (z := (zS I50 J51 tg)) rfl c69 ?_
        refine Runs.sN 1 (c' := (83, [.ref 93, .int v49], [.int 1], (zS I50 J51 tg))) rfl ?_
        subst h
        exact Runs.rt rfl
theorem sg_223_115 {L d : Nat} {xs : Nat → Int32} (I : Nat → Nat → Int32) (J : Nat → Nat → Int64) (tg : Option Nat) {r : Option Value × SS} (h : ((if (I 93 23) ≤ 0 then (r = (some (.int 0), (zS I J tg))) else (¬ (((I 93 23) - 1) < 0 ∨ 160 ≤ ((I 93 23) - 1).toNatClampNeg) ∧ (if (I 102 (((I 93 23) - 1).toNatClampNeg)) = 2 then (∃ (I1 : Nat → Nat → Int32) (J2 : Nat → Nat → Int64), Runs (GW L xs) d 219 (0, [.ref 93, .int 2, .int 0], [], (zS (up2 (up2 I 93 23 ((I 93 23) - 1)) 93 24 ((I 93 24) - 1)) J tg)) (none, (zS I1 J2 tg)) ∧ Runs (GW L xs) (d + 1) 223 (115, [.ref 93, vU], [], (zS I1 J2 tg)) r) else (r = (some (.int 0), (zS I J tg)))))))) : Runs (GW L xs) (d + 1) 223 (115, [.ref 93, vU], [], (zS I J tg)) r := by
  refine Runs.sN 2 (c' := (119, [.ref 93, vU], [.int (I 93 23)], (zS I J tg))) rfl ?_
  by_cases c3 : (I 93 23) ≤ 0
  · rw [if_pos c3] at h
    refine Runs.brT (P := (I 93 23) ≤ 0) (a := 166) (b := 122) (L := [.ref 93, vU]) (S := []) (z := (zS I J tg)) rfl c3 ?_
    refine Runs.sN 1 (c' := (167, [.ref 93, vU], [.int 0], (zS I J tg))) rfl ?_
    subst h
    exact Runs.rt rfl
  · rw [if_neg c3] at h
    refine Runs.brF (P := (I 93 23) ≤ 0) (a := 166) (b := 122) (L := [.ref 93, vU]) (S := []) (z := (zS I J tg)) rfl c3 ?_
    refine Runs.sN 6 (c' := (132, [.ref 93, vU], [.int ((I 93 23) - 1), .ref 102], (zS I J tg))) rfl ?_
    obtain ⟨c4, h⟩ := h
    refine Runs.to (c' := (133, [.ref 93, vU], [.int (I 102 (((I 93 23) - 1).toNatClampNeg))], (zS I J tg))) (Runs.ild rfl (show (102 : Nat) < 114 by decide) rfl c4) ?_
    refine Runs.sN 1 (c' := (134, [.ref 93, vU], [.int 2, .int (I 102 (((I 93 23) - 1).toNatClampNeg))], (zS I J tg))) rfl ?_
    by_cases c5 : (I 102 (((I 93 23) - 1).toNatClampNeg)) = 2
    · rw [if_pos c5] at h
      refine Runs.brT (P := (I 102 (((I 93 23) - 1).toNatClampNeg)) = 2) (a := 137) (b := 166) (L := [.ref 93, vU]) (S := []) (z := (zS I J tg)) rfl c5 ?_
      refine Runs.sN 15 (c' := (160, [.ref 93, vU], [.int 0, .int 2, .ref 93], (zS (up2 (up2 I 93 23 ((I 93 23) - 1)) 93 24 ((I 93 24) - 1)) J tg))) rfl ?_
      obtain ⟨I1, J2, c6, h⟩ := h
      refine Runs.cl (cm := 219) (as := [.ref 93, .int 2, .int 0]) (rest := []) (r1 := (none, (zS I1 J2 tg))) rfl (Nat.le_of_ble_eq_true rfl) c6 ?_
      refine Runs.as (c' := (163, [.ref 93, vU], [], (zS I1 J2 tg))) rfl ?_
      refine Runs.sN 1 (c' := (115, [.ref 93, vU], [], (zS I1 J2 tg))) rfl ?_
      exact h
    · rw [if_neg c5] at h
      refine Runs.brF (P := (I 102 (((I 93 23) - 1).toNatClampNeg)) = 2) (a := 137) (b := 166) (L := [.ref 93, vU]) (S := []) (z := (zS I J tg)) rfl c5 ?_
      refine Runs.sN 1 (c' := (167, [.ref 93, vU], [.int 0], (zS I J tg))) rfl ?_
      subst h
      exact Runs.rt rfl
-- X12_goesOn 
theorem sg_224 {L d : Nat} {xs : Nat → Int32} (I : Nat → Nat → Int32) (J : Nat → Nat → Int64) (tg : Option Nat) {r : Option Value × SS} (h : ((if (I 93 15) = 43 then (r = (some (.int 1), (zS I J tg))) else ((if (I 93 15) = 45 then (r = (some (.int 1), (zS I J tg))) else ((if (I 93 15) = 42 then (r = (some (.int 1), (zS I J tg))) else (r = (some (.int 0), (zS I J tg)))))))))) : Runs (GW L xs) d 224 (0, [.ref 93], [], (zS I J tg)) r := by
  refine Runs.sN 3 (c' := (6, [.ref 93], [.int 43, .int (I 93 15)], (zS I J tg))) rfl ?_
  by_cases c1 : (I 93 15) = 43
  · rw [if_pos c1] at h
    refine Runs.brT (P := (I 93 15) = 43) (a := 27) (b := 9) (L := [.ref 93]) (S := []) (z := (zS I J tg)) rfl c1 ?_
    refine Runs.sN 2 (c' := (32, [.ref 93], [.int 1], (zS I J tg))) rfl ?_
    subst h
    exact Runs.rt rfl
  · rw [if_neg c1] at h
    refine Runs.brF (P := (I 93 15) = 43) (a := 27) (b := 9) (L := [.ref 93]) (S := []) (z := (zS I J tg)) rfl c1 ?_
    refine Runs.sN 3 (c' := (15, [.ref 93], [.int 45, .int (I 93 15)], (zS I J tg))) rfl ?_
    by_cases c2 : (I 93 15) = 45
    · rw [if_pos c2] at h
      refine Runs.brT (P := (I 93 15) = 45) (a := 27) (b := 18) (L := [.ref 93]) (S := []) (z := (zS I J tg)) rfl c2 ?_
      refine Runs.sN 2 (c' := (32, [.ref 93], [.int 1], (zS I J tg))) rfl ?_
      subst h
      exact Runs.rt rfl
    · rw [if_neg c2] at h
      refine Runs.brF (P := (I 93 15) = 45) (a := 27) (b := 18) (L := [.ref 93]) (S := []) (z := (zS I J tg)) rfl c2 ?_
      refine Runs.sN 3 (c' := (24, [.ref 93], [.int 42, .int (I 93 15)], (zS I J tg))) rfl ?_
      by_cases c3 : (I 93 15) = 42
      · rw [if_pos c3] at h
        refine Runs.brT (P := (I 93 15) = 42) (a := 27) (b := 31) (L := [.ref 93]) (S := []) (z := (zS I J tg)) rfl c3 ?_
        refine Runs.sN 2 (c' := (32, [.ref 93], [.int 1], (zS I J tg))) rfl ?_
        subst h
        exact Runs.rt rfl
      · rw [if_neg c3] at h
        refine Runs.brF (P := (I 93 15) = 42) (a := 27) (b := 31) (L := [.ref 93]) (S := []) (z := (zS I J tg)) rfl c3 ?_
        refine Runs.sN 1 (c' := (32, [.ref 93], [.int 0], (zS I J tg))) rfl ?_
        subst h
        exact Runs.rt rfl
-- X12_summed 
theorem sg_225 {L d : Nat} {xs : Nat → Int32} (I : Nat → Nat → Int32) (J : Nat → Nat → Int64) (tg : Option Nat) {r : Option Value × SS} (h : (Runs (GW L xs) (d + 1) 225 (10, [.ref 93, vU], [], (zS (up2 (up2 I 93 23 0) 93 25 0) J tg)) r)) : Runs (GW L xs) (d + 1) 225 (0, [.ref 93, vU], [], (zS I J tg)) r := by
  refine Runs.sN 6 (c' := (10, [.ref 93, vU], [], (zS (up2 (up2 I 93 23 0) 93 25 0) J tg))) rfl ?_
  exact h
theorem sg_225_10 {L d : Nat} {xs : Nat → Int32} (I : Nat → Nat → Int32) (J : Nat → Nat → Int64) (tg : Option Nat) {r : Option Value × SS} (h : ((if (I 93 25) = 0 then (Runs (GW L xs) (d + 1) 225 (24, [.ref 93, vU], [], (zS I J tg)) r) else (∃ (v1 : Int32) (I2 : Nat → Nat → Int32) (J3 : Nat → Nat → Int64), Runs (GW L xs) d 224 (0, [.ref 93], [], (zS I J tg)) ((some (.int v1)), (zS I2 J3 tg)) ∧ (if v1 = 0 then (∃ (I4 : Nat → Nat → Int32) (J5 : Nat → Nat → Int64), Runs (GW L xs) d 222 (0, [.ref 93, .int 3], [], (zS I2 J3 tg)) (none, (zS I4 J5 tg)) ∧ r = (some (.int 0), (zS I4 J5 tg))) else (Runs (GW L xs) (d + 1) 225 (24, [.ref 93, vU], [], (zS I2 J3 tg)) r)))))) : Runs (GW L xs) (d + 1) 225 (10, [.ref 93, vU], [], (zS I J tg)) r := by
  refine Runs.sN 2 (c' := (14, [.ref 93, vU], [.int (I 93 25)], (zS I J tg))) rfl ?_
  by_cases c6 : (I 93 25) = 0
  · rw [if_pos c6] at h
    refine Runs.brT (P := (I 93 25) = 0) (a := 24) (b := 17) (L := [.ref 93, vU]) (S := []) (z := (zS I J tg)) rfl c6 ?_
    exact h
  · rw [if_neg c6] at h
    refine Runs.brF (P := (I 93 25) = 0) (a := 24) (b := 17) (L := [.ref 93, vU]) (S := []) (z := (zS I J tg)) rfl c6 ?_
    refine Runs.sN 1 (c' := (18, [.ref 93, vU], [.ref 93], (zS I J tg))) rfl ?_
    obtain ⟨v1, I2, J3, c7, h⟩ := h
    refine Runs.cl (cm := 224) (as := [.ref 93]) (rest := []) (r1 := ((some (.int v1)), (zS I2 J3 tg))) rfl (Nat.le_of_ble_eq_true rfl) c7 ?_
    refine Runs.as (c' := (21, [.ref 93, vU], [.int v1], (zS I2 J3 tg))) rfl ?_
    by_cases c8 : v1 = 0
    · rw [if_pos c8] at h
      refine Runs.brT (P := v1 = 0) (a := 104) (b := 24) (L := [.ref 93, vU]) (S := []) (z := (zS I2 J3 tg)) rfl c8 ?_
      refine Runs.sN 2 (c' := (106, [.ref 93, vU], [.int 3, .ref 93], (zS I2 J3 tg))) rfl ?_
      obtain ⟨I4, J5, c9, h⟩ := h
      refine Runs.cl (cm := 222) (as := [.ref 93, .int 3]) (rest := []) (r1 := (none, (zS I4 J5 tg))) rfl (Nat.le_of_ble_eq_true rfl) c9 ?_
      refine Runs.as (c' := (109, [.ref 93, vU], [], (zS I4 J5 tg))) rfl ?_
      refine Runs.sN 1 (c' := (110, [.ref 93, vU], [.int 0], (zS I4 J5 tg))) rfl ?_
      subst h
      exact Runs.rt rfl
    · rw [if_neg c8] at h
      refine Runs.brF (P := v1 = 0) (a := 104) (b := 24) (L := [.ref 93, vU]) (S := []) (z := (zS I2 J3 tg)) rfl c8 ?_
      exact h
theorem sg_225_24 {L d : Nat} {xs : Nat → Int32} (I : Nat → Nat → Int32) (J : Nat → Nat → Int64) (tg : Option Nat) {r : Option Value × SS} (h : ((if (I 93 25) = 0 then (∃ (v1 : Int32) (I2 : Nat → Nat → Int32) (J3 : Nat → Nat → Int64), Runs (GW L xs) d 223 (0, [.ref 93, vU], [], (zS I J tg)) ((some (.int v1)), (zS I2 J3 tg)) ∧ (if v1 = 0 then (Runs (GW L xs) (d + 1) 225 (10, [.ref 93, vU], [], (zS I2 J3 tg)) r) else (r = (some (.int v1), (zS I2 J3 tg))))) else ((if (I 93 15) = 42 then (Runs (GW L xs) (d + 1) 225 (58, [.ref 93, vU], [.int 5], (zS I J tg)) r) else ((if (I 93 15) = 43 then (Runs (GW L xs) (d + 1) 225 (58, [.ref 93, vU], [.int 3], (zS I J tg)) r) else (Runs (GW L xs) (d + 1) 225 (58, [.ref 93, vU], [.int 4], (zS I J tg)) r)))))))) : Runs (GW L xs) (d + 1) 225 (24, [.ref 93, vU], [], (zS I J tg)) r := by
  refine Runs.sN 2 (c' := (28, [.ref 93, vU], [.int (I 93 25)], (zS I J tg))) rfl ?_
  by_cases c4 : (I 93 25) = 0
  · rw [if_pos c4] at h
    refine Runs.brT (P := (I 93 25) = 0) (a := 90) (b := 31) (L := [.ref 93, vU]) (S := []) (z := (zS I J tg)) rfl c4 ?_
    refine Runs.sN 1 (c' := (91, [.ref 93, vU], [.ref 93], (zS I J tg))) rfl ?_
    obtain ⟨v1, I2, J3, c5, h⟩ := h
    refine Runs.cl (cm := 223) (as := [.ref 93]) (rest := []) (r1 := ((some (.int v1)), (zS I2 J3 tg))) rfl (Nat.le_of_ble_eq_true rfl) c5 ?_
    refine Runs.as (c' := (94, [.ref 93, vU], [.int v1], (zS I2 J3 tg))) rfl ?_
    refine Runs.sN 2 (c' := (96, [.ref 93, .int v1], [.int v1], (zS I2 J3 tg))) rfl ?_
    by_cases c6 : v1 = 0
    · rw [if_pos c6] at h
      refine Runs.brT (P := v1 = 0) (a := 101) (b := 99) (L := [.ref 93, .int v1]) (S := []) (z := (zS I2 J3 tg)) rfl c6 ?_
      refine Runs.sN 1 (c' := (10, [.ref 93, .int v1], [], (zS I2 J3 tg))) rfl ?_
      exact Runs.weak (L := [.ref 93, vU]) (Lle.k (Lle.u Lle.n)) h
    · rw [if_neg c6] at h
      refine Runs.brF (P := v1 = 0) (a := 101) (b := 99) (L := [.ref 93, .int v1]) (S := []) (z := (zS I2 J3 tg)) rfl c6 ?_
      refine Runs.sN 1 (c' := (100, [.ref 93, .int v1], [.int v1], (zS I2 J3 tg))) rfl ?_
      subst h
      exact Runs.rt rfl
  · rw [if_neg c4] at h
    refine Runs.brF (P := (I 93 25) = 0) (a := 90) (b := 31) (L := [.ref 93, vU]) (S := []) (z := (zS I J tg)) rfl c4 ?_
    refine Runs.sN 3 (c' := (37, [.ref 93, vU], [.int 42, .int (I 93 15)], (zS I J tg))) rfl ?_
    by_cases c7 : (I 93 15) = 42
    · rw [if_pos c7] at h
      refine Runs.brT (P := (I 93 15) = 42) (a := 40) (b := 44) (L := [.ref 93, vU]) (S := []) (z := (zS I J tg)) rfl c7 ?_
      refine Runs.sN 2 (c' := (58, [.ref 93, vU], [.int 5], (zS I J tg))) rfl ?_
      exact h
    · rw [if_neg c7] at h
      refine Runs.brF (P := (I 93 15) = 42) (a := 40) (b := 44) (L := [.ref 93, vU]) (S := []) (z := (zS I J tg)) rfl c7 ?_
      refine Runs.sN 3 (c' := (50, [.ref 93, vU], [.int 43, .int (I 93 15)], (zS I J tg))) rfl ?_
      by_cases c8 : (I 93 15) = 43
      · rw [if_pos c8] at h
        refine Runs.brT (P := (I 93 15) = 43) (a := 53) (b := 57) (L := [.ref 93, vU]) (S := []) (z := (zS I J tg)) rfl c8 ?_
        refine Runs.sN 2 (c' := (58, [.ref 93, vU], [.int 3], (zS I J tg))) rfl ?_
        exact h
      · rw [if_neg c8] at h
        refine Runs.brF (P := (I 93 15) = 43) (a := 53) (b := 57) (L := [.ref 93, vU]) (S := []) (z := (zS I J tg)) rfl c8 ?_
        refine Runs.sN 1 (c' := (58, [.ref 93, vU], [.int 4], (zS I J tg))) rfl ?_
        exact h
theorem sg_225_58 {L d : Nat} {xs : Nat → Int32} (I : Nat → Nat → Int32) (J : Nat → Nat → Int64) (tg : Option Nat) (y0 : Int32) {r : Option Value × SS} (h : ((if y0 = 5 then (Runs (GW L xs) (d + 1) 225 (70, [.ref 93, .int y0], [.int 5, .ref 93], (zS I J tg)) r) else (Runs (GW L xs) (d + 1) 225 (70, [.ref 93, .int y0], [.int 3, .ref 93], (zS I J tg)) r)))) : Runs (GW L xs) (d + 1) 225 (58, [.ref 93, vU], [.int y0], (zS I J tg)) r := by
  refine Runs.sN 4 (c' := (62, [.ref 93, .int y0], [.int 5, .int y0, .ref 93], (zS I J tg))) rfl ?_
  by_cases c1 : y0 = 5
  · rw [if_pos c1] at h
    refine Runs.brT (P := y0 = 5) (a := 65) (b := 69) (L := [.ref 93, .int y0]) (S := [.ref 93]) (z := (zS I J tg)) rfl c1 ?_
    refine Runs.sN 2 (c' := (70, [.ref 93, .int y0], [.int 5, .ref 93], (zS I J tg))) rfl ?_
    exact h
  · rw [if_neg c1] at h
    refine Runs.brF (P := y0 = 5) (a := 65) (b := 69) (L := [.ref 93, .int y0]) (S := [.ref 93]) (z := (zS I J tg)) rfl c1 ?_
    refine Runs.sN 1 (c' := (70, [.ref 93, .int y0], [.int 3, .ref 93], (zS I J tg))) rfl ?_
    exact h
theorem sg_225_70 {L d : Nat} {xs : Nat → Int32} (I : Nat → Nat → Int32) (J : Nat → Nat → Int64) (tg : Option Nat) (x1 : Int32) (y1 : Int32) {r : Option Value × SS} (h : (∃ (I1 : Nat → Nat → Int32) (J2 : Nat → Nat → Int64), Runs (GW L xs) d 222 (0, [.ref 93, .int y1], [], (zS I J tg)) (none, (zS I1 J2 tg)) ∧ ∃ (I3 : Nat → Nat → Int32) (J4 : Nat → Nat → Int64), Runs (GW L xs) d 221 (0, [.ref 93, .int x1], [], (zS I1 J2 tg)) (none, (zS I3 J4 tg)) ∧ ∃ (I5 : Nat → Nat → Int32) (J6 : Nat → Nat → Int64), Runs (GW L xs) d 213 (0, [.ref 93, vU, vU], [], (zS (up2 I3 93 25 0) J4 tg)) (none, (zS I5 J6 tg)) ∧ Runs (GW L xs) (d + 1) 225 (10, [.ref 93, vU], [], (zS I5 J6 tg)) r)) : Runs (GW L xs) (d + 1) 225 (70, [.ref 93, .int x1], [.int y1, .ref 93], (zS I J tg)) r := by
  obtain ⟨I1, J2, c7, h⟩ := h
  refine Runs.cl (cm := 222) (as := [.ref 93, .int y1]) (rest := []) (r1 := (none, (zS I1 J2 tg))) rfl (Nat.le_of_ble_eq_true rfl) c7 ?_
  refine Runs.as (c' := (73, [.ref 93, .int x1], [], (zS I1 J2 tg))) rfl ?_
  refine Runs.sN 2 (c' := (75, [.ref 93, .int x1], [.int x1, .ref 93], (zS I1 J2 tg))) rfl ?_
  obtain ⟨I3, J4, c8, h⟩ := h
  refine Runs.cl (cm := 221) (as := [.ref 93, .int x1]) (rest := []) (r1 := (none, (zS I3 J4 tg))) rfl (Nat.le_of_ble_eq_true rfl) c8 ?_
  refine Runs.as (c' := (78, [.ref 93, .int x1], [], (zS I3 J4 tg))) rfl ?_
  refine Runs.sN 4 (c' := (84, [.ref 93, .int x1], [.ref 93], (zS (up2 I3 93 25 0) J4 tg))) rfl ?_
  obtain ⟨I5, J6, c9, h⟩ := h
  refine Runs.cl (cm := 213) (as := [.ref 93]) (rest := []) (r1 := (none, (zS I5 J6 tg))) rfl (Nat.le_of_ble_eq_true rfl) c9 ?_
  refine Runs.as (c' := (87, [.ref 93, .int x1], [], (zS I5 J6 tg))) rfl ?_
  refine Runs.sN 1 (c' := (10, [.ref 93, .int x1], [], (zS I5 J6 tg))) rfl ?_
  exact Runs.weak (L := [.ref 93, vU]) (Lle.k (Lle.u Lle.n)) h
-- X12_compareOf 
theorem sg_226 {L d : Nat} {xs : Nat → Int32} (I : Nat → Nat → Int32) (J : Nat → Nat → Int64) (tg : Option Nat) {r : Option Value × SS} (h : ((if (I 93 15) = 60 then (r = (some (.int 10), (zS I J tg))) else ((if (I 93 15) = 4 then (r = (some (.int 11), (zS I J tg))) else ((if (I 93 15) = 62 then (r = (some (.int 12), (zS I J tg))) else ((if (I 93 15) = 5 then (r = (some (.int 13), (zS I J tg))) else ((if (I 93 15) = 61 then (r = (some (.int 14), (zS I J tg))) else ((if (I 93 15) = 35 then (r = (some (.int 15), (zS I J tg))) else (r = (some (.int (-1)), (zS I J tg)))))))))))))))) : Runs (GW L xs) d 226 (0, [.ref 93], [], (zS I J tg)) r := by
  refine Runs.sN 3 (c' := (6, [.ref 93], [.int 60, .int (I 93 15)], (zS I J tg))) rfl ?_
  by_cases c1 : (I 93 15) = 60
  · rw [if_pos c1] at h
    refine Runs.brT (P := (I 93 15) = 60) (a := 9) (b := 14) (L := [.ref 93]) (S := []) (z := (zS I J tg)) rfl c1 ?_
    refine Runs.sN 2 (c' := (83, [.ref 93], [.int 10], (zS I J tg))) rfl ?_
    subst h
    exact Runs.rt rfl
  · rw [if_neg c1] at h
    refine Runs.brF (P := (I 93 15) = 60) (a := 9) (b := 14) (L := [.ref 93]) (S := []) (z := (zS I J tg)) rfl c1 ?_
    refine Runs.sN 3 (c' := (19, [.ref 93], [.int 4, .int (I 93 15)], (zS I J tg))) rfl ?_
    by_cases c2 : (I 93 15) = 4
    · rw [if_pos c2] at h
      refine Runs.brT (P := (I 93 15) = 4) (a := 22) (b := 27) (L := [.ref 93]) (S := []) (z := (zS I J tg)) rfl c2 ?_
      refine Runs.sN 2 (c' := (83, [.ref 93], [.int 11], (zS I J tg))) rfl ?_
      subst h
      exact Runs.rt rfl
    · rw [if_neg c2] at h
      refine Runs.brF (P := (I 93 15) = 4) (a := 22) (b := 27) (L := [.ref 93]) (S := []) (z := (zS I J tg)) rfl c2 ?_
      refine Runs.sN 3 (c' := (33, [.ref 93], [.int 62, .int (I 93 15)], (zS I J tg))) rfl ?_
      by_cases c3 : (I 93 15) = 62
      · rw [if_pos c3] at h
        refine Runs.brT (P := (I 93 15) = 62) (a := 36) (b := 41) (L := [.ref 93]) (S := []) (z := (zS I J tg)) rfl c3 ?_
        refine Runs.sN 2 (c' := (83, [.ref 93], [.int 12], (zS I J tg))) rfl ?_
        subst h
        exact Runs.rt rfl
      · rw [if_neg c3] at h
        refine Runs.brF (P := (I 93 15) = 62) (a := 36) (b := 41) (L := [.ref 93]) (S := []) (z := (zS I J tg)) rfl c3 ?_
        refine Runs.sN 3 (c' := (46, [.ref 93], [.int 5, .int (I 93 15)], (zS I J tg))) rfl ?_
        by_cases c4 : (I 93 15) = 5
        · rw [if_pos c4] at h
          refine Runs.brT (P := (I 93 15) = 5) (a := 49) (b := 54) (L := [.ref 93]) (S := []) (z := (zS I J tg)) rfl c4 ?_
          refine Runs.sN 2 (c' := (83, [.ref 93], [.int 13], (zS I J tg))) rfl ?_
          subst h
          exact Runs.rt rfl
        · rw [if_neg c4] at h
          refine Runs.brF (P := (I 93 15) = 5) (a := 49) (b := 54) (L := [.ref 93]) (S := []) (z := (zS I J tg)) rfl c4 ?_
          refine Runs.sN 3 (c' := (60, [.ref 93], [.int 61, .int (I 93 15)], (zS I J tg))) rfl ?_
          by_cases c5 : (I 93 15) = 61
          · rw [if_pos c5] at h
            refine Runs.brT (P := (I 93 15) = 61) (a := 63) (b := 68) (L := [.ref 93]) (S := []) (z := (zS I J tg)) rfl c5 ?_
            refine Runs.sN 2 (c' := (83, [.ref 93], [.int 14], (zS I J tg))) rfl ?_
            subst h
            exact Runs.rt rfl
          · rw [if_neg c5] at h
            refine Runs.brF (P := (I 93 15) = 61) (a := 63) (b := 68) (L := [.ref 93]) (S := []) (z := (zS I J tg)) rfl c5 ?_
            refine Runs.sN 3 (c' := (74, [.ref 93], [.int 35, .int (I 93 15)], (zS I J tg))) rfl ?_
            by_cases c6 : (I 93 15) = 35
            · rw [if_pos c6] at h
              refine Runs.brT (P := (I 93 15) = 35) (a := 77) (b := 82) (L := [.ref 93]) (S := []) (z := (zS I J tg)) rfl c6 ?_
              refine Runs.sN 2 (c' := (83, [.ref 93], [.int 15], (zS I J tg))) rfl ?_
              subst h
              exact Runs.rt rfl
            · rw [if_neg c6] at h
              refine Runs.brF (P := (I 93 15) = 35) (a := 77) (b := 82) (L := [.ref 93]) (S := []) (z := (zS I J tg)) rfl c6 ?_
              refine Runs.sN 1 (c' := (83, [.ref 93], [.int (-1)], (zS I J tg))) rfl ?_
              subst h
              exact Runs.rt rfl
-- X12_asks 
theorem sg_227 {L d : Nat} {xs : Nat → Int32} (I : Nat → Nat → Int32) (J : Nat → Nat → Int64) (tg : Option Nat) {r : Option Value × SS} (h : ((if (I 93 15) = 40 then ((if (I 93 24) = 8 then (r = (some (.int 3), (zS I J tg))) else (¬ ((I 93 10) < 0 ∨ 160 ≤ (I 93 10).toNatClampNeg) ∧ ∃ (I46 : Nat → Nat → Int32) (J47 : Nat → Nat → Int64), Runs (GW L xs) d 213 (0, [.ref 93, vU, vU], [], (zS (up2 (up2 (up2 I 93 24 ((I 93 24) + 1)) 101 ((I 93 10).toNatClampNeg) 40) 93 10 ((I 93 10) + 1)) J tg)) (none, (zS I46 J47 tg)) ∧ Runs (GW L xs) (d + 1) 227 (0, [.ref 93, vU, vU], [], (zS I46 J47 tg)) r))) else (∃ (v48 : Int32) (I49 : Nat → Nat → Int32) (J50 : Nat → Nat → Int64), Runs (GW L xs) d 225 (0, [.ref 93, vU], [], (zS I J tg)) ((some (.int v48)), (zS I49 J50 tg)) ∧ (if v48 = 0 then (∃ (v51 : Int32) (I52 : Nat → Nat → Int32) (J53 : Nat → Nat → Int64), Runs (GW L xs) d 226 (0, [.ref 93], [], (zS I49 J50 tg)) ((some (.int v51)), (zS I52 J53 tg)) ∧ (if 0 ≤ v51 then (∃ (I54 : Nat → Nat → Int32) (J55 : Nat → Nat → Int64), Runs (GW L xs) d 213 (0, [.ref 93, vU, vU], [], (zS I52 J53 tg)) (none, (zS I54 J55 tg)) ∧ ∃ (v56 : Int32) (I57 : Nat → Nat → Int32) (J58 : Nat → Nat → Int64), Runs (GW L xs) d 225 (0, [.ref 93, vU], [], (zS I54 J55 tg)) ((some (.int v56)), (zS I57 J58 tg)) ∧ (if v56 = 0 then (∃ (I59 : Nat → Nat → Int32) (J60 : Nat → Nat → Int64), Runs (GW L xs) d 219 (0, [.ref 93, .int v51, .int 0], [], (zS I57 J58 tg)) (none, (zS I59 J60 tg)) ∧ r = (some (.int 0), (zS I59 J60 tg))) else (r = (some (.int v56), (zS I57 J58 tg))))) else (r = (some (.int 1), (zS I52 J53 tg))))) else (r = (some (.int v48), (zS I49 J50 tg)))))))) : Runs (GW L xs) (d + 1) 227 (0, [.ref 93, vU, vU], [], (zS I J tg)) r := by
  refine Runs.sN 3 (c' := (6, [.ref 93, vU, vU], [.int 40, .int (I 93 15)], (zS I J tg))) rfl ?_
  by_cases c61 : (I 93 15) = 40
  · rw [if_pos c61] at h
    refine Runs.brT (P := (I 93 15) = 40) (a := 9) (b := 58) (L := [.ref 93, vU, vU]) (S := []) (z := (zS I J tg)) rfl c61 ?_
    refine Runs.sN 3 (c' := (15, [.ref 93, vU, vU], [.int 8, .int (I 93 24)], (zS I J tg))) rfl ?_
    by_cases c62 : (I 93 24) = 8
    · rw [if_pos c62] at h
      refine Runs.brT (P := (I 93 24) = 8) (a := 18) (b := 20) (L := [.ref 93, vU, vU]) (S := []) (z := (zS I J tg)) rfl c62 ?_
      refine Runs.sN 1 (c' := (19, [.ref 93, vU, vU], [.int 3], (zS I J tg))) rfl ?_
      subst h
      exact Runs.rt rfl
    · rw [if_neg c62] at h
      refine Runs.brF (P := (I 93 24) = 8) (a := 18) (b := 20) (L := [.ref 93, vU, vU]) (S := []) (z := (zS I J tg)) rfl c62 ?_
      refine Runs.sN 11 (c' := (40, [.ref 93, vU, vU], [.int 40, .int (I 93 10), .ref 101], (zS (up2 I 93 24 ((I 93 24) + 1)) J tg))) rfl ?_
      obtain ⟨c63, h⟩ := h
      refine Runs.to (c' := (41, [.ref 93, vU, vU], [], (zS (up2 (up2 I 93 24 ((I 93 24) + 1)) 101 ((I 93 10).toNatClampNeg) 40) J tg))) (Runs.ist rfl (show (101 : Nat) < 114 by decide) rfl c63) ?_
      refine Runs.sN 7 (c' := (52, [.ref 93, vU, vU], [.ref 93], (zS (up2 (up2 (up2 I 93 24 ((I 93 24) + 1)) 101 ((I 93 10).toNatClampNeg) 40) 93 10 ((I 93 10) + 1)) J tg))) rfl ?_
      obtain ⟨I46, J47, c64, h⟩ := h
      refine Runs.cl (cm := 213) (as := [.ref 93]) (rest := []) (r1 := (none, (zS I46 J47 tg))) rfl (Nat.le_of_ble_eq_true rfl) c64 ?_
      refine Runs.as (c' := (55, [.ref 93, vU, vU], [], (zS I46 J47 tg))) rfl ?_
      refine Runs.sN 1 (c' := (0, [.ref 93, vU, vU], [], (zS I46 J47 tg))) rfl ?_
      exact h
  · rw [if_neg c61] at h
    refine Runs.brF (P := (I 93 15) = 40) (a := 9) (b := 58) (L := [.ref 93, vU, vU]) (S := []) (z := (zS I J tg)) rfl c61 ?_
    refine Runs.sN 1 (c' := (59, [.ref 93, vU, vU], [.ref 93], (zS I J tg))) rfl ?_
    obtain ⟨v48, I49, J50, c65, h⟩ := h
    refine Runs.cl (cm := 225) (as := [.ref 93]) (rest := []) (r1 := ((some (.int v48)), (zS I49 J50 tg))) rfl (Nat.le_of_ble_eq_true rfl) c65 ?_
    refine Runs.as (c' := (62, [.ref 93, vU, vU], [.int v48], (zS I49 J50 tg))) rfl ?_
    refine Runs.sN 2 (c' := (64, [.ref 93, .int v48, vU], [.int v48], (zS I49 J50 tg))) rfl ?_
    by_cases c66 : v48 = 0
    · rw [if_pos c66] at h
      refine Runs.brT (P := v48 = 0) (a := 69) (b := 67) (L := [.ref 93, .int v48, vU]) (S := []) (z := (zS I49 J50 tg)) rfl c66 ?_
      refine Runs.sN 1 (c' := (70, [.ref 93, .int v48, vU], [.ref 93], (zS I49 J50 tg))) rfl ?_
      obtain ⟨v51, I52, J53, c67, h⟩ := h
      refine Runs.cl (cm := 226) (as := [.ref 93]) (rest := []) (r1 := ((some (.int v51)), (zS I52 J53 tg))) rfl (Nat.le_of_ble_eq_true rfl) c67 ?_
      refine Runs.as (c' := (73, [.ref 93, .int v48, vU], [.int v51], (zS I52 J53 tg))) rfl ?_
      refine Runs.sN 2 (c' := (75, [.ref 93, .int v48, .int v51], [.int v51], (zS I52 J53 tg))) rfl ?_
      by_cases c68 : 0 ≤ v51
      · rw [if_pos c68] at h
        refine Runs.brT (P := 0 ≤ v51) (a := 80) (b := 78) (L := [.ref 93, .int v48, .int v51]) (S := []) (z := (zS I52 J53 tg)) rfl c68 ?_
        refine Runs.sN 1 (c' := (81, [.ref 93, .int v48, .int v51], [.ref 93], (zS I52 J53 tg))) rfl ?_
        obtain ⟨I54, J55, c69, h⟩ := h
        refine Runs.cl (cm := 213) (as := [.ref 93]) (rest := []) (r1 := (none, (zS I54 J55 tg))) rfl (Nat.le_of_ble_eq_true rfl) c69 ?_
        refine Runs.as (c' := (84, [.ref 93, .int v48, .int v51], [], (zS I54 J55 tg))) rfl ?_
        refine Runs.sN 1 (c' := (85, [.ref 93, .int v48, .int v51], [.ref 93], (zS I54 J55 tg))) rfl ?_
        obtain ⟨v56, I57, J58, c70, h⟩ := h
        refine Runs.cl (cm := 225) (as := [.ref 93]) (rest := []) (r1 := ((some (.int v56)), (zS I57 J58 tg))) rfl (Nat.le_of_ble_eq_true rfl) c70 ?_
        refine Runs.as (c' := (88, [.ref 93, .int v48, .int v51], [.int v56], (zS I57 J58 tg))) rfl ?_
        refine Runs.sN 2 (c' := (90, [.ref 93, .int v56, .int v51], [.int v56], (zS I57 J58 tg))) rfl ?_
        by_cases c71 : v56 = 0
        · rw [if_pos c71] at h
          refine Runs.brT (P := v56 = 0) (a := 95) (b := 93) (L := [.ref 93, .int v56, .int v51]) (S := []) (z := (zS I57 J58 tg)) rfl c71 ?_
          refine Runs.sN 3 (c' := (98, [.ref 93, .int v56, .int v51], [.int 0, .int v51, .ref 93], (zS I57 J58 tg))) rfl ?_
          obtain ⟨I59, J60, c72, h⟩ := h
          refine Runs.cl (cm := 219) (as := [.ref 93, .int v51, .int 0]) (rest := []) (r1 := (none, (zS I59 J60 tg))) rfl (Nat.le_of_ble_eq_true rfl) c72 ?_
          refine Runs.as (c' := (101, [.ref 93, .int v56, .int v51], [], (zS I59 J60 tg))) rfl ?_
          refine Runs.sN 1 (c' := (102, [.ref 93, .int v56, .int v51], [.int 0], (zS I59 J60 tg))) rfl ?_
          subst h
          exact Runs.rt rfl
        · rw [if_neg c71] at h
          refine Runs.brF (P := v56 = 0) (a := 95) (b := 93) (L := [.ref 93, .int v56, .int v51]) (S := []) (z := (zS I57 J58 tg)) rfl c71 ?_
          refine Runs.sN 1 (c' := (94, [.ref 93, .int v56, .int v51], [.int v56], (zS I57 J58 tg))) rfl ?_
          subst h
          exact Runs.rt rfl
      · rw [if_neg c68] at h
        refine Runs.brF (P := 0 ≤ v51) (a := 80) (b := 78) (L := [.ref 93, .int v48, .int v51]) (S := []) (z := (zS I52 J53 tg)) rfl c68 ?_
        refine Runs.sN 1 (c' := (79, [.ref 93, .int v48, .int v51], [.int 1], (zS I52 J53 tg))) rfl ?_
        subst h
        exact Runs.rt rfl
    · rw [if_neg c66] at h
      refine Runs.brF (P := v48 = 0) (a := 69) (b := 67) (L := [.ref 93, .int v48, vU]) (S := []) (z := (zS I49 J50 tg)) rfl c66 ?_
      refine Runs.sN 1 (c' := (68, [.ref 93, .int v48, vU], [.int v48], (zS I49 J50 tg))) rfl ?_
      subst h
      exact Runs.rt rfl
theorem sg_227_0 {L d : Nat} {xs : Nat → Int32} (I : Nat → Nat → Int32) (J : Nat → Nat → Int64) (tg : Option Nat) {r : Option Value × SS} (h : ((if (I 93 15) = 40 then ((if (I 93 24) = 8 then (r = (some (.int 3), (zS I J tg))) else (¬ ((I 93 10) < 0 ∨ 160 ≤ (I 93 10).toNatClampNeg) ∧ ∃ (I1 : Nat → Nat → Int32) (J2 : Nat → Nat → Int64), Runs (GW L xs) d 213 (0, [.ref 93, vU, vU], [], (zS (up2 (up2 (up2 I 93 24 ((I 93 24) + 1)) 101 ((I 93 10).toNatClampNeg) 40) 93 10 ((I 93 10) + 1)) J tg)) (none, (zS I1 J2 tg)) ∧ Runs (GW L xs) (d + 1) 227 (0, [.ref 93, vU, vU], [], (zS I1 J2 tg)) r))) else (∃ (v3 : Int32) (I4 : Nat → Nat → Int32) (J5 : Nat → Nat → Int64), Runs (GW L xs) d 225 (0, [.ref 93, vU], [], (zS I J tg)) ((some (.int v3)), (zS I4 J5 tg)) ∧ (if v3 = 0 then (∃ (v6 : Int32) (I7 : Nat → Nat → Int32) (J8 : Nat → Nat → Int64), Runs (GW L xs) d 226 (0, [.ref 93], [], (zS I4 J5 tg)) ((some (.int v6)), (zS I7 J8 tg)) ∧ (if 0 ≤ v6 then (∃ (I9 : Nat → Nat → Int32) (J10 : Nat → Nat → Int64), Runs (GW L xs) d 213 (0, [.ref 93, vU, vU], [], (zS I7 J8 tg)) (none, (zS I9 J10 tg)) ∧ ∃ (v11 : Int32) (I12 : Nat → Nat → Int32) (J13 : Nat → Nat → Int64), Runs (GW L xs) d 225 (0, [.ref 93, vU], [], (zS I9 J10 tg)) ((some (.int v11)), (zS I12 J13 tg)) ∧ (if v11 = 0 then (∃ (I14 : Nat → Nat → Int32) (J15 : Nat → Nat → Int64), Runs (GW L xs) d 219 (0, [.ref 93, .int v6, .int 0], [], (zS I12 J13 tg)) (none, (zS I14 J15 tg)) ∧ r = (some (.int 0), (zS I14 J15 tg))) else (r = (some (.int v11), (zS I12 J13 tg))))) else (r = (some (.int 1), (zS I7 J8 tg))))) else (r = (some (.int v3), (zS I4 J5 tg)))))))) : Runs (GW L xs) (d + 1) 227 (0, [.ref 93, vU, vU], [], (zS I J tg)) r := by
  refine Runs.sN 3 (c' := (6, [.ref 93, vU, vU], [.int 40, .int (I 93 15)], (zS I J tg))) rfl ?_
  by_cases c16 : (I 93 15) = 40
  · rw [if_pos c16] at h
    refine Runs.brT (P := (I 93 15) = 40) (a := 9) (b := 58) (L := [.ref 93, vU, vU]) (S := []) (z := (zS I J tg)) rfl c16 ?_
    refine Runs.sN 3 (c' := (15, [.ref 93, vU, vU], [.int 8, .int (I 93 24)], (zS I J tg))) rfl ?_
    by_cases c17 : (I 93 24) = 8
    · rw [if_pos c17] at h
      refine Runs.brT (P := (I 93 24) = 8) (a := 18) (b := 20) (L := [.ref 93, vU, vU]) (S := []) (z := (zS I J tg)) rfl c17 ?_
      refine Runs.sN 1 (c' := (19, [.ref 93, vU, vU], [.int 3], (zS I J tg))) rfl ?_
      subst h
      exact Runs.rt rfl
    · rw [if_neg c17] at h
      refine Runs.brF (P := (I 93 24) = 8) (a := 18) (b := 20) (L := [.ref 93, vU, vU]) (S := []) (z := (zS I J tg)) rfl c17 ?_
      refine Runs.sN 11 (c' := (40, [.ref 93, vU, vU], [.int 40, .int (I 93 10), .ref 101], (zS (up2 I 93 24 ((I 93 24) + 1)) J tg))) rfl ?_
      obtain ⟨c18, h⟩ := h
      refine Runs.to (c' := (41, [.ref 93, vU, vU], [], (zS (up2 (up2 I 93 24 ((I 93 24) + 1)) 101 ((I 93 10).toNatClampNeg) 40) J tg))) (Runs.ist rfl (show (101 : Nat) < 114 by decide) rfl c18) ?_
      refine Runs.sN 7 (c' := (52, [.ref 93, vU, vU], [.ref 93], (zS (up2 (up2 (up2 I 93 24 ((I 93 24) + 1)) 101 ((I 93 10).toNatClampNeg) 40) 93 10 ((I 93 10) + 1)) J tg))) rfl ?_
      obtain ⟨I1, J2, c19, h⟩ := h
      refine Runs.cl (cm := 213) (as := [.ref 93]) (rest := []) (r1 := (none, (zS I1 J2 tg))) rfl (Nat.le_of_ble_eq_true rfl) c19 ?_
      refine Runs.as (c' := (55, [.ref 93, vU, vU], [], (zS I1 J2 tg))) rfl ?_
      refine Runs.sN 1 (c' := (0, [.ref 93, vU, vU], [], (zS I1 J2 tg))) rfl ?_
      exact h
  · rw [if_neg c16] at h
    refine Runs.brF (P := (I 93 15) = 40) (a := 9) (b := 58) (L := [.ref 93, vU, vU]) (S := []) (z := (zS I J tg)) rfl c16 ?_
    refine Runs.sN 1 (c' := (59, [.ref 93, vU, vU], [.ref 93], (zS I J tg))) rfl ?_
    obtain ⟨v3, I4, J5, c20, h⟩ := h
    refine Runs.cl (cm := 225) (as := [.ref 93]) (rest := []) (r1 := ((some (.int v3)), (zS I4 J5 tg))) rfl (Nat.le_of_ble_eq_true rfl) c20 ?_
    refine Runs.as (c' := (62, [.ref 93, vU, vU], [.int v3], (zS I4 J5 tg))) rfl ?_
    refine Runs.sN 2 (c' := (64, [.ref 93, .int v3, vU], [.int v3], (zS I4 J5 tg))) rfl ?_
    by_cases c21 : v3 = 0
    · rw [if_pos c21] at h
      refine Runs.brT (P := v3 = 0) (a := 69) (b := 67) (L := [.ref 93, .int v3, vU]) (S := []) (z := (zS I4 J5 tg)) rfl c21 ?_
      refine Runs.sN 1 (c' := (70, [.ref 93, .int v3, vU], [.ref 93], (zS I4 J5 tg))) rfl ?_
      obtain ⟨v6, I7, J8, c22, h⟩ := h
      refine Runs.cl (cm := 226) (as := [.ref 93]) (rest := []) (r1 := ((some (.int v6)), (zS I7 J8 tg))) rfl (Nat.le_of_ble_eq_true rfl) c22 ?_
      refine Runs.as (c' := (73, [.ref 93, .int v3, vU], [.int v6], (zS I7 J8 tg))) rfl ?_
      refine Runs.sN 2 (c' := (75, [.ref 93, .int v3, .int v6], [.int v6], (zS I7 J8 tg))) rfl ?_
      by_cases c23 : 0 ≤ v6
      · rw [if_pos c23] at h
        refine Runs.brT (P := 0 ≤ v6) (a := 80) (b := 78) (L := [.ref 93, .int v3, .int v6]) (S := []) (z := (zS I7 J8 tg)) rfl c23 ?_
        refine Runs.sN 1 (c' := (81, [.ref 93, .int v3, .int v6], [.ref 93], (zS I7 J8 tg))) rfl ?_
        obtain ⟨I9, J10, c24, h⟩ := h
        refine Runs.cl (cm := 213) (as := [.ref 93]) (rest := []) (r1 := (none, (zS I9 J10 tg))) rfl (Nat.le_of_ble_eq_true rfl) c24 ?_
        refine Runs.as (c' := (84, [.ref 93, .int v3, .int v6], [], (zS I9 J10 tg))) rfl ?_
        refine Runs.sN 1 (c' := (85, [.ref 93, .int v3, .int v6], [.ref 93], (zS I9 J10 tg))) rfl ?_
        obtain ⟨v11, I12, J13, c25, h⟩ := h
        refine Runs.cl (cm := 225) (as := [.ref 93]) (rest := []) (r1 := ((some (.int v11)), (zS I12 J13 tg))) rfl (Nat.le_of_ble_eq_true rfl) c25 ?_
        refine Runs.as (c' := (88, [.ref 93, .int v3, .int v6], [.int v11], (zS I12 J13 tg))) rfl ?_
        refine Runs.sN 2 (c' := (90, [.ref 93, .int v11, .int v6], [.int v11], (zS I12 J13 tg))) rfl ?_
        by_cases c26 : v11 = 0
        · rw [if_pos c26] at h
          refine Runs.brT (P := v11 = 0) (a := 95) (b := 93) (L := [.ref 93, .int v11, .int v6]) (S := []) (z := (zS I12 J13 tg)) rfl c26 ?_
          refine Runs.sN 3 (c' := (98, [.ref 93, .int v11, .int v6], [.int 0, .int v6, .ref 93], (zS I12 J13 tg))) rfl ?_
          obtain ⟨I14, J15, c27, h⟩ := h
          refine Runs.cl (cm := 219) (as := [.ref 93, .int v6, .int 0]) (rest := []) (r1 := (none, (zS I14 J15 tg))) rfl (Nat.le_of_ble_eq_true rfl) c27 ?_
          refine Runs.as (c' := (101, [.ref 93, .int v11, .int v6], [], (zS I14 J15 tg))) rfl ?_
          refine Runs.sN 1 (c' := (102, [.ref 93, .int v11, .int v6], [.int 0], (zS I14 J15 tg))) rfl ?_
          subst h
          exact Runs.rt rfl
        · rw [if_neg c26] at h
          refine Runs.brF (P := v11 = 0) (a := 95) (b := 93) (L := [.ref 93, .int v11, .int v6]) (S := []) (z := (zS I12 J13 tg)) rfl c26 ?_
          refine Runs.sN 1 (c' := (94, [.ref 93, .int v11, .int v6], [.int v11], (zS I12 J13 tg))) rfl ?_
          subst h
          exact Runs.rt rfl
      · rw [if_neg c23] at h
        refine Runs.brF (P := 0 ≤ v6) (a := 80) (b := 78) (L := [.ref 93, .int v3, .int v6]) (S := []) (z := (zS I7 J8 tg)) rfl c23 ?_
        refine Runs.sN 1 (c' := (79, [.ref 93, .int v3, .int v6], [.int 1], (zS I7 J8 tg))) rfl ?_
        subst h
        exact Runs.rt rfl
    · rw [if_neg c21] at h
      refine Runs.brF (P := v3 = 0) (a := 69) (b := 67) (L := [.ref 93, .int v3, vU]) (S := []) (z := (zS I4 J5 tg)) rfl c21 ?_
      refine Runs.sN 1 (c' := (68, [.ref 93, .int v3, vU], [.int v3], (zS I4 J5 tg))) rfl ?_
      subst h
      exact Runs.rt rfl
-- X12_settleAsks 
theorem sg_228 {L d : Nat} {xs : Nat → Int32} (I : Nat → Nat → Int32) (J : Nat → Nat → Int64) (tg : Option Nat) (a1 : Int32) {r : Option Value × SS} (h : ((if (I 93 10) ≤ 0 then (r = (none, (zS I J tg))) else (¬ (((I 93 10) - 1) < 0 ∨ 160 ≤ ((I 93 10) - 1).toNatClampNeg) ∧ (if (I 101 (((I 93 10) - 1).toNatClampNeg)) = 21 then (¬ (((I 93 10) - 1) < 0 ∨ 160 ≤ ((I 93 10) - 1).toNatClampNeg) ∧ ∃ (I13 : Nat → Nat → Int32) (J14 : Nat → Nat → Int64), Runs (GW L xs) d 219 (0, [.ref 93, .int (I 101 (((I 93 10) - 1).toNatClampNeg)), .int 0], [], (zS (up2 I 93 10 ((I 93 10) - 1)) J tg)) (none, (zS I13 J14 tg)) ∧ Runs (GW L xs) (d + 1) 228 (0, [.ref 93, .int a1], [], (zS I13 J14 tg)) r) else ((if a1 = 0 then (r = (none, (zS I J tg))) else (¬ (((I 93 10) - 1) < 0 ∨ 160 ≤ ((I 93 10) - 1).toNatClampNeg) ∧ (if (I 101 (((I 93 10) - 1).toNatClampNeg)) = 22 then (¬ (((I 93 10) - 1) < 0 ∨ 160 ≤ ((I 93 10) - 1).toNatClampNeg) ∧ ∃ (I15 : Nat → Nat → Int32) (J16 : Nat → Nat → Int64), Runs (GW L xs) d 219 (0, [.ref 93, .int (I 101 (((I 93 10) - 1).toNatClampNeg)), .int 0], [], (zS (up2 I 93 10 ((I 93 10) - 1)) J tg)) (none, (zS I15 J16 tg)) ∧ Runs (GW L xs) (d + 1) 228 (0, [.ref 93, .int a1], [], (zS I15 J16 tg)) r) else (r = (none, (zS I J tg)))))))))))) : Runs (GW L xs) (d + 1) 228 (0, [.ref 93, .int a1], [], (zS I J tg)) r := by
  refine Runs.sN 2 (c' := (4, [.ref 93, .int a1], [.int (I 93 10)], (zS I J tg))) rfl ?_
  by_cases c17 : (I 93 10) ≤ 0
  · rw [if_pos c17] at h
    refine Runs.brT (P := (I 93 10) ≤ 0) (a := 70) (b := 7) (L := [.ref 93, .int a1]) (S := []) (z := (zS I J tg)) rfl c17 ?_
    subst h
    exact Runs.rt rfl
  · rw [if_neg c17] at h
    refine Runs.brF (P := (I 93 10) ≤ 0) (a := 70) (b := 7) (L := [.ref 93, .int a1]) (S := []) (z := (zS I J tg)) rfl c17 ?_
    refine Runs.sN 6 (c' := (17, [.ref 93, .int a1], [.int ((I 93 10) - 1), .ref 101], (zS I J tg))) rfl ?_
    obtain ⟨c18, h⟩ := h
    refine Runs.to (c' := (18, [.ref 93, .int a1], [.int (I 101 (((I 93 10) - 1).toNatClampNeg))], (zS I J tg))) (Runs.ild rfl (show (101 : Nat) < 114 by decide) rfl c18) ?_
    refine Runs.sN 1 (c' := (20, [.ref 93, .int a1], [.int 21, .int (I 101 (((I 93 10) - 1).toNatClampNeg))], (zS I J tg))) rfl ?_
    by_cases c19 : (I 101 (((I 93 10) - 1).toNatClampNeg)) = 21
    · rw [if_pos c19] at h
      refine Runs.brT (P := (I 101 (((I 93 10) - 1).toNatClampNeg)) = 21) (a := 43) (b := 23) (L := [.ref 93, .int a1]) (S := []) (z := (zS I J tg)) rfl c19 ?_
      refine Runs.sN 11 (c' := (62, [.ref 93, .int a1], [.int ((I 93 10) - 1), .ref 101, .ref 93], (zS (up2 I 93 10 ((I 93 10) - 1)) J tg))) rfl ?_
      obtain ⟨c20, h⟩ := h
      refine Runs.to (c' := (63, [.ref 93, .int a1], [.int (I 101 (((I 93 10) - 1).toNatClampNeg)), .ref 93], (zS (up2 I 93 10 ((I 93 10) - 1)) J tg))) (Runs.ild rfl (show (101 : Nat) < 114 by decide) rfl c20) ?_
      refine Runs.sN 1 (c' := (64, [.ref 93, .int a1], [.int 0, .int (I 101 (((I 93 10) - 1).toNatClampNeg)), .ref 93], (zS (up2 I 93 10 ((I 93 10) - 1)) J tg))) rfl ?_
      obtain ⟨I13, J14, c21, h⟩ := h
      refine Runs.cl (cm := 219) (as := [.ref 93, .int (I 101 (((I 93 10) - 1).toNatClampNeg)), .int 0]) (rest := []) (r1 := (none, (zS I13 J14 tg))) rfl (Nat.le_of_ble_eq_true rfl) c21 ?_
      refine Runs.as (c' := (67, [.ref 93, .int a1], [], (zS I13 J14 tg))) rfl ?_
      refine Runs.sN 1 (c' := (0, [.ref 93, .int a1], [], (zS I13 J14 tg))) rfl ?_
      exact h
    · rw [if_neg c19] at h
      refine Runs.brF (P := (I 101 (((I 93 10) - 1).toNatClampNeg)) = 21) (a := 43) (b := 23) (L := [.ref 93, .int a1]) (S := []) (z := (zS I J tg)) rfl c19 ?_
      refine Runs.sN 1 (c' := (24, [.ref 93, .int a1], [.int a1], (zS I J tg))) rfl ?_
      by_cases c22 : a1 = 0
      · rw [if_pos c22] at h
        refine Runs.brT (P := a1 = 0) (a := 70) (b := 27) (L := [.ref 93, .int a1]) (S := []) (z := (zS I J tg)) rfl c22 ?_
        subst h
        exact Runs.rt rfl
      · rw [if_neg c22] at h
        refine Runs.brF (P := a1 = 0) (a := 70) (b := 27) (L := [.ref 93, .int a1]) (S := []) (z := (zS I J tg)) rfl c22 ?_
        refine Runs.sN 6 (c' := (37, [.ref 93, .int a1], [.int ((I 93 10) - 1), .ref 101], (zS I J tg))) rfl ?_
        obtain ⟨c23, h⟩ := h
        refine Runs.to (c' := (38, [.ref 93, .int a1], [.int (I 101 (((I 93 10) - 1).toNatClampNeg))], (zS I J tg))) (Runs.ild rfl (show (101 : Nat) < 114 by decide) rfl c23) ?_
        refine Runs.sN 1 (c' := (40, [.ref 93, .int a1], [.int 22, .int (I 101 (((I 93 10) - 1).toNatClampNeg))], (zS I J tg))) rfl ?_
        by_cases c24 : (I 101 (((I 93 10) - 1).toNatClampNeg)) = 22
        · rw [if_pos c24] at h
          refine Runs.brT (P := (I 101 (((I 93 10) - 1).toNatClampNeg)) = 22) (a := 43) (b := 70) (L := [.ref 93, .int a1]) (S := []) (z := (zS I J tg)) rfl c24 ?_
          refine Runs.sN 11 (c' := (62, [.ref 93, .int a1], [.int ((I 93 10) - 1), .ref 101, .ref 93], (zS (up2 I 93 10 ((I 93 10) - 1)) J tg))) rfl ?_
          obtain ⟨c25, h⟩ := h
          refine Runs.to (c' := (63, [.ref 93, .int a1], [.int (I 101 (((I 93 10) - 1).toNatClampNeg)), .ref 93], (zS (up2 I 93 10 ((I 93 10) - 1)) J tg))) (Runs.ild rfl (show (101 : Nat) < 114 by decide) rfl c25) ?_
          refine Runs.sN 1 (c' := (64, [.ref 93, .int a1], [.int 0, .int (I 101 (((I 93 10) - 1).toNatClampNeg)), .ref 93], (zS (up2 I 93 10 ((I 93 10) - 1)) J tg))) rfl ?_
          obtain ⟨I15, J16, c26, h⟩ := h
          refine Runs.cl (cm := 219) (as := [.ref 93, .int (I 101 (((I 93 10) - 1).toNatClampNeg)), .int 0]) (rest := []) (r1 := (none, (zS I15 J16 tg))) rfl (Nat.le_of_ble_eq_true rfl) c26 ?_
          refine Runs.as (c' := (67, [.ref 93, .int a1], [], (zS I15 J16 tg))) rfl ?_
          refine Runs.sN 1 (c' := (0, [.ref 93, .int a1], [], (zS I15 J16 tg))) rfl ?_
          exact h
        · rw [if_neg c24] at h
          refine Runs.brF (P := (I 101 (((I 93 10) - 1).toNatClampNeg)) = 22) (a := 43) (b := 70) (L := [.ref 93, .int a1]) (S := []) (z := (zS I J tg)) rfl c24 ?_
          subst h
          exact Runs.rt rfl
theorem sg_228_0 {L d : Nat} {xs : Nat → Int32} (I : Nat → Nat → Int32) (J : Nat → Nat → Int64) (tg : Option Nat) (x1 : Int32) {r : Option Value × SS} (h : ((if (I 93 10) ≤ 0 then (r = (none, (zS I J tg))) else (¬ (((I 93 10) - 1) < 0 ∨ 160 ≤ ((I 93 10) - 1).toNatClampNeg) ∧ (if (I 101 (((I 93 10) - 1).toNatClampNeg)) = 21 then (¬ (((I 93 10) - 1) < 0 ∨ 160 ≤ ((I 93 10) - 1).toNatClampNeg) ∧ ∃ (I1 : Nat → Nat → Int32) (J2 : Nat → Nat → Int64), Runs (GW L xs) d 219 (0, [.ref 93, .int (I 101 (((I 93 10) - 1).toNatClampNeg)), .int 0], [], (zS (up2 I 93 10 ((I 93 10) - 1)) J tg)) (none, (zS I1 J2 tg)) ∧ Runs (GW L xs) (d + 1) 228 (0, [.ref 93, .int x1], [], (zS I1 J2 tg)) r) else ((if x1 = 0 then (r = (none, (zS I J tg))) else (¬ (((I 93 10) - 1) < 0 ∨ 160 ≤ ((I 93 10) - 1).toNatClampNeg) ∧ (if (I 101 (((I 93 10) - 1).toNatClampNeg)) = 22 then (¬ (((I 93 10) - 1) < 0 ∨ 160 ≤ ((I 93 10) - 1).toNatClampNeg) ∧ ∃ (I3 : Nat → Nat → Int32) (J4 : Nat → Nat → Int64), Runs (GW L xs) d 219 (0, [.ref 93, .int (I 101 (((I 93 10) - 1).toNatClampNeg)), .int 0], [], (zS (up2 I 93 10 ((I 93 10) - 1)) J tg)) (none, (zS I3 J4 tg)) ∧ Runs (GW L xs) (d + 1) 228 (0, [.ref 93, .int x1], [], (zS I3 J4 tg)) r) else (r = (none, (zS I J tg)))))))))))) : Runs (GW L xs) (d + 1) 228 (0, [.ref 93, .int x1], [], (zS I J tg)) r := by
  refine Runs.sN 2 (c' := (4, [.ref 93, .int x1], [.int (I 93 10)], (zS I J tg))) rfl ?_
  by_cases c5 : (I 93 10) ≤ 0
  · rw [if_pos c5] at h
    refine Runs.brT (P := (I 93 10) ≤ 0) (a := 70) (b := 7) (L := [.ref 93, .int x1]) (S := []) (z := (zS I J tg)) rfl c5 ?_
    subst h
    exact Runs.rt rfl
  · rw [if_neg c5] at h
    refine Runs.brF (P := (I 93 10) ≤ 0) (a := 70) (b := 7) (L := [.ref 93, .int x1]) (S := []) (z := (zS I J tg)) rfl c5 ?_
    refine Runs.sN 6 (c' := (17, [.ref 93, .int x1], [.int ((I 93 10) - 1), .ref 101], (zS I J tg))) rfl ?_
    obtain ⟨c6, h⟩ := h
    refine Runs.to (c' := (18, [.ref 93, .int x1], [.int (I 101 (((I 93 10) - 1).toNatClampNeg))], (zS I J tg))) (Runs.ild rfl (show (101 : Nat) < 114 by decide) rfl c6) ?_
    refine Runs.sN 1 (c' := (20, [.ref 93, .int x1], [.int 21, .int (I 101 (((I 93 10) - 1).toNatClampNeg))], (zS I J tg))) rfl ?_
    by_cases c7 : (I 101 (((I 93 10) - 1).toNatClampNeg)) = 21
    · rw [if_pos c7] at h
      refine Runs.brT (P := (I 101 (((I 93 10) - 1).toNatClampNeg)) = 21) (a := 43) (b := 23) (L := [.ref 93, .int x1]) (S := []) (z := (zS I J tg)) rfl c7 ?_
      refine Runs.sN 11 (c' := (62, [.ref 93, .int x1], [.int ((I 93 10) - 1), .ref 101, .ref 93], (zS (up2 I 93 10 ((I 93 10) - 1)) J tg))) rfl ?_
      obtain ⟨c8, h⟩ := h
      refine Runs.to (c' := (63, [.ref 93, .int x1], [.int (I 101 (((I 93 10) - 1).toNatClampNeg)), .ref 93], (zS (up2 I 93 10 ((I 93 10) - 1)) J tg))) (Runs.ild rfl (show (101 : Nat) < 114 by decide) rfl c8) ?_
      refine Runs.sN 1 (c' := (64, [.ref 93, .int x1], [.int 0, .int (I 101 (((I 93 10) - 1).toNatClampNeg)), .ref 93], (zS (up2 I 93 10 ((I 93 10) - 1)) J tg))) rfl ?_
      obtain ⟨I1, J2, c9, h⟩ := h
      refine Runs.cl (cm := 219) (as := [.ref 93, .int (I 101 (((I 93 10) - 1).toNatClampNeg)), .int 0]) (rest := []) (r1 := (none, (zS I1 J2 tg))) rfl (Nat.le_of_ble_eq_true rfl) c9 ?_
      refine Runs.as (c' := (67, [.ref 93, .int x1], [], (zS I1 J2 tg))) rfl ?_
      refine Runs.sN 1 (c' := (0, [.ref 93, .int x1], [], (zS I1 J2 tg))) rfl ?_
      exact h
    · rw [if_neg c7] at h
      refine Runs.brF (P := (I 101 (((I 93 10) - 1).toNatClampNeg)) = 21) (a := 43) (b := 23) (L := [.ref 93, .int x1]) (S := []) (z := (zS I J tg)) rfl c7 ?_
      refine Runs.sN 1 (c' := (24, [.ref 93, .int x1], [.int x1], (zS I J tg))) rfl ?_
      by_cases c10 : x1 = 0
      · rw [if_pos c10] at h
        refine Runs.brT (P := x1 = 0) (a := 70) (b := 27) (L := [.ref 93, .int x1]) (S := []) (z := (zS I J tg)) rfl c10 ?_
        subst h
        exact Runs.rt rfl
      · rw [if_neg c10] at h
        refine Runs.brF (P := x1 = 0) (a := 70) (b := 27) (L := [.ref 93, .int x1]) (S := []) (z := (zS I J tg)) rfl c10 ?_
        refine Runs.sN 6 (c' := (37, [.ref 93, .int x1], [.int ((I 93 10) - 1), .ref 101], (zS I J tg))) rfl ?_
        obtain ⟨c11, h⟩ := h
        refine Runs.to (c' := (38, [.ref 93, .int x1], [.int (I 101 (((I 93 10) - 1).toNatClampNeg))], (zS I J tg))) (Runs.ild rfl (show (101 : Nat) < 114 by decide) rfl c11) ?_
        refine Runs.sN 1 (c' := (40, [.ref 93, .int x1], [.int 22, .int (I 101 (((I 93 10) - 1).toNatClampNeg))], (zS I J tg))) rfl ?_
        by_cases c12 : (I 101 (((I 93 10) - 1).toNatClampNeg)) = 22
        · rw [if_pos c12] at h
          refine Runs.brT (P := (I 101 (((I 93 10) - 1).toNatClampNeg)) = 22) (a := 43) (b := 70) (L := [.ref 93, .int x1]) (S := []) (z := (zS I J tg)) rfl c12 ?_
          refine Runs.sN 11 (c' := (62, [.ref 93, .int x1], [.int ((I 93 10) - 1), .ref 101, .ref 93], (zS (up2 I 93 10 ((I 93 10) - 1)) J tg))) rfl ?_
          obtain ⟨c13, h⟩ := h
          refine Runs.to (c' := (63, [.ref 93, .int x1], [.int (I 101 (((I 93 10) - 1).toNatClampNeg)), .ref 93], (zS (up2 I 93 10 ((I 93 10) - 1)) J tg))) (Runs.ild rfl (show (101 : Nat) < 114 by decide) rfl c13) ?_
          refine Runs.sN 1 (c' := (64, [.ref 93, .int x1], [.int 0, .int (I 101 (((I 93 10) - 1).toNatClampNeg)), .ref 93], (zS (up2 I 93 10 ((I 93 10) - 1)) J tg))) rfl ?_
          obtain ⟨I3, J4, c14, h⟩ := h
          refine Runs.cl (cm := 219) (as := [.ref 93, .int (I 101 (((I 93 10) - 1).toNatClampNeg)), .int 0]) (rest := []) (r1 := (none, (zS I3 J4 tg))) rfl (Nat.le_of_ble_eq_true rfl) c14 ?_
          refine Runs.as (c' := (67, [.ref 93, .int x1], [], (zS I3 J4 tg))) rfl ?_
          refine Runs.sN 1 (c' := (0, [.ref 93, .int x1], [], (zS I3 J4 tg))) rfl ?_
          exact h
        · rw [if_neg c12] at h
          refine Runs.brF (P := (I 101 (((I 93 10) - 1).toNatClampNeg)) = 22) (a := 43) (b := 70) (L := [.ref 93, .int x1]) (S := []) (z := (zS I J tg)) rfl c12 ?_
          subst h
          exact Runs.rt rfl
