def TT2_0 : List Nat := [1, 8]
def TT2 : List Nat := TT2_0
def TT3_0 : List Nat := [10, 17, 66, 80, 129, 136]
def TT3 : List Nat := TT3_0
def TT4_0 : List Nat := [83, 90, 153, 209, 531, 538, 664, 720, 1035, 1091, 1217, 1224, 1546, 1602, 1665, 1672]
def TT4 : List Nat := TT4_0
def TT5_0 : List Nat := [668, 675, 738, 794, 1249, 1305, 1676, 1809, 2131, 2257, 4252, 4259, 4322, 4378, 5316, 5344, 5400, 5904, 6170, 6352, 8284, 8291, 8732, 8739, 8963, 9761, 9985, 9992, 10433, 10440, 12372, 12554, 12820, 13324, 13380, 13408, 14346, 14402, 14465, 14472, 16467, 16593, 16915, 17048, 17419, 17475, 17930, 17986, 18049, 18056]
def TT5 : List Nat := TT5_0
def TT6_0 : List Nat := [5349, 5356, 5419, 5475, 5930, 5986, 6357, 6490, 6812, 6938, 10025, 10081, 10585, 11033, 13413, 13420, 14673, 15121, 18089, 19027, 19153, 21729, 22611, 22737, 34021, 34028, 34091, 34147, 34602, 34658, 35029, 35162, 35484, 35610, 42533, 42540, 42792, 42848, 43352, 43800, 47440, 47888, 50856, 51738, 51920, 54496, 55322, 55504, 66277, 66284, 66347, 66403, 69861, 69868, 69931, 69987, 72003, 72451, 78121, 78177]
def TT6_1 : List Nat := [79885, 79941, 80193, 80200, 80641, 80648, 84673, 84680, 86115, 86563, 88257, 88264, 98981, 98988, 100682, 101130, 102565, 102572, 106597, 106604, 107045, 107052, 107304, 107360, 109068, 109124, 114794, 115242, 117258, 117314, 117377, 117384, 120842, 120898, 120961, 120968, 131741, 131923, 132749, 135325, 135507, 136389, 139357, 139805, 143445, 143893, 144397, 144453, 144705, 144712, 151635, 151761, 152083, 152216, 152587, 152643, 153098, 153154, 153217, 153224]
def TT6_2 : List Nat := [164508, 164634, 165516, 168092, 168218, 169156, 172124, 172572, 173825, 173832, 176212, 176660, 177164, 177220, 180307, 180433, 180755, 180888, 181259, 181315, 181770, 181826, 181889, 181896]
def TT6 : List Nat := TT6_0 ++ (TT6_1 ++ (TT6_2))
def TT7_0 : List Nat := [42798, 42805, 42868, 42924, 43379, 43435, 43806, 43939, 44261, 44387, 47474, 47530, 48034, 48482, 50862, 50869, 52122, 52570, 55538, 56476, 56602, 59178, 60060, 60186, 80241, 80297, 80801, 81249, 84889, 85337, 88305, 89369, 91945, 92953, 107310, 107317, 107380, 107436, 117390, 117649, 118097, 122129, 124012, 125713, 144753, 144809, 152243, 154707, 154833, 158291, 158417, 173838, 180894, 181902, 182161, 189665, 190547, 190673, 201957, 202083]
def TT7_1 : List Nat := [202965, 210021, 211281, 218337, 219219, 219345, 272174, 272181, 272244, 272300, 272755, 272811, 273182, 273315, 273637, 273763, 276850, 276906, 277410, 277858, 280238, 280245, 281498, 281946, 284914, 285852, 285978, 288554, 289436, 289562, 340270, 340277, 340340, 340396, 342342, 342384, 342440, 342944, 343084, 343392, 347032, 347480, 350406, 350448, 351512, 353829, 354088, 355096, 379792, 380240, 384272, 387856, 406854, 406896, 406952, 414106, 416794, 416976, 420378, 420560]
def TT7_2 : List Nat := [442610, 444304, 451808, 452634, 452816, 460586, 461468, 461594, 473424, 480480, 481306, 481488, 530222, 530229, 530292, 530348, 530803, 530859, 531230, 531363, 531685, 531811, 558894, 558901, 558964, 559020, 559475, 559531, 559902, 560035, 560357, 560483, 576051, 576387, 576835, 579614, 580867, 581861, 581987, 584451, 625009, 625065, 625569, 626017, 639086, 639093, 639534, 639541, 639877, 641585, 641921, 641928, 642369, 642376, 646401, 646408, 647521, 649985, 649992, 679105]
def TT7_3 : List Nat := [679112, 682689, 682696, 691299, 706097, 706433, 706440, 712803, 713251, 714945, 714952, 733481, 735553, 735560, 741475, 741923, 743617, 743624, 791854, 791861, 791924, 791980, 805462, 805770, 806218, 810250, 811692, 813834, 820526, 820533, 820596, 820652, 852782, 852789, 852852, 852908, 856366, 856373, 856436, 856492, 858438, 858480, 858536, 859040, 859180, 859488, 872844, 875532, 875588, 879116, 879172, 918386, 918442, 921970, 922026, 924714, 938070, 938378, 938518, 939022]
def TT7_4 : List Nat := [939078, 939120, 941066, 941122, 941185, 941192, 944650, 944706, 944769, 944776, 976906, 976962, 977025, 977032, 983724, 985866, 987308, 991340, 991788, 992096, 1005578, 1005634, 1005697, 1005704, 1053934, 1053941, 1055635, 1056083, 1061998, 1062005, 1064077, 1082606, 1082613, 1084307, 1084755, 1091118, 1091125, 1091461, 1106259, 1114862, 1114869, 1118446, 1118453, 1147566, 1147573, 1150037, 1151150, 1151157, 1155182, 1155189, 1155630, 1155637, 1155973, 1157681, 1158017, 1158024, 1158465, 1158472, 1171541, 1171989]
def TT7_5 : List Nat := [1172493, 1172549, 1213107, 1215571, 1215697, 1216691, 1217944, 1220723, 1221171, 1221507, 1237075, 1237201, 1237523, 1237656, 1238027, 1238083, 1238538, 1238594, 1238657, 1238664, 1265747, 1265873, 1266195, 1266328, 1266699, 1266755, 1267210, 1267266, 1267329, 1267336, 1316070, 1316252, 1317078, 1324134, 1335964, 1336090, 1336972, 1344742, 1344924, 1345750, 1353254, 1354948, 1376998, 1377180, 1380582, 1380764, 1383452, 1390606, 1390662, 1390704, 1409702, 1413286, 1417318, 1417766, 1442462, 1443470, 1443729, 1446046, 1447110, 1447152]
def TT7_6 : List Nat := [1450078, 1450526, 1454166, 1454474, 1454614, 1455118, 1455174, 1455216, 1457162, 1457218, 1457281, 1457288, 1507996, 1508122, 1509004, 1511580, 1511706, 1512644, 1515612, 1516060, 1517313, 1517320, 1519700, 1520148, 1520652, 1520708, 1523795, 1523921, 1524243, 1524376, 1524747, 1524803, 1525258, 1525314, 1525377, 1525384, 1578213, 1578339, 1579221, 1586277, 1587537, 1594593, 1595475, 1595601, 1606885, 1607011, 1607893, 1615397, 1615656, 1616664, 1623720, 1639141, 1639267, 1642725, 1642851, 1645315, 1652749, 1652805, 1671845, 1673546]
def TT7_7 : List Nat := [1675429, 1679461, 1679909, 1680168, 1690122, 1690178, 1690241, 1690248, 1704605, 1705613, 1708189, 1709253, 1712221, 1712669, 1716309, 1716757, 1717261, 1717317, 1737372, 1737498, 1738380, 1740956, 1741082, 1742020, 1744988, 1745436, 1746689, 1746696, 1749076, 1749524, 1750028, 1750084, 1753171, 1753297, 1753619, 1753752, 1754123, 1754179, 1754634, 1754690, 1754753, 1754760]
def TT7 : List Nat := TT7_0 ++ (TT7_1 ++ (TT7_2 ++ (TT7_3 ++ (TT7_4 ++ (TT7_5 ++ (TT7_6 ++ (TT7_7)))))))
def sorB : List Nat → Bool
  | a :: b :: t => Nat.blt a b && sorB (b :: t)
  | _ => true
theorem sorB_t : ∀ {l : List Nat}, sorB l = true → l.Pairwise (· < ·)
  | [], _ => List.Pairwise.nil
  | [a], _ => by simp
  | a :: b :: t, h => by
    rw [sorB, Bool.and_eq_true] at h
    have h1 : a < b := Nat.le_of_ble_eq_true h.1
    have h2 := sorB_t h.2
    refine List.Pairwise.cons (fun x hx => ?_) h2
    rcases List.mem_cons.mp hx with e | e
    · rw [e]; exact h1
    · exact Nat.lt_trans h1 ((List.pairwise_cons.mp h2).1 x e)
set_option maxRecDepth 100000 in
theorem kp2 : allB (fun i => perB 2 (unL 2 i)) 0 2 = true := by decide +kernel
set_option maxRecDepth 100000 in
theorem ks2 : allB (stepB 2) 0 1 = true := by decide +kernel
theorem kz2 : eqL (unL 2 0) (List.range 2) = true ∧ fPl (unL 2 1) 1 = 0 ∧ fct 2 = 2 := by decide +kernel
set_option maxRecDepth 100000 in
theorem kt2 : runT 2 2 2 TT2 = true := by decide +kernel
set_option maxRecDepth 100000 in
theorem kc2 : ckP 2 (covB 2) 2 [] = true := by decide +kernel
theorem ko2 : sorB TT2 = true ∧ TT2.length = 2 := by decide +kernel
theorem run2 : isRun 2 (fct 2) (unL 2) := by
  have hz := kz2
  have hs := allB_t ks2
  have hp := allB_t kp2
  rw [hz.2.2]
  refine ⟨by decide, fun j hj => ?_, fun i hi => perB_t (hp i (Nat.zero_le _) (by omega)), fun i hi => ?_, hz.2.1⟩
  · rw [eqL_t hz.1]
    unfold rowL
    rw [List.getD_eq_getElem?_getD, List.getElem?_range hj]
    rfl
  · have h := hs i (Nat.zero_le _) (by omega)
    unfold stepB at h
    rw [Bool.and_eq_true] at h
    exact ⟨fun e => by rw [e] at h; exact absurd h.1 (by decide), eqL_t h.2⟩
theorem pfx2 : pfx 2 (unL 2) (fct 2) = TT2.map (fun c : Nat => (c : Int)) := by
  have hr := run2
  have hz := kz2
  rw [hz.2.2] at hr ⊢
  have h := runT_t hr.2.2.1 2 TT2 (Nat.le_refl _) kt2
  rw [Nat.sub_self] at h
  rw [h]
  rfl
theorem OT2 : OT 2 2 (fun k => (pfx 2 (unL 2) (fct 2)).getD k 0) := by
  have hl : (pfx 2 (unL 2) (fct 2)).length = 2 := by rw [pfx2, List.length_map]; exact ko2.2
  have h := OT_of (n := 2) (by decide) run2 kc2 (by rw [hl]; decide) (by
    rw [pfx2, List.nodup_iff_pairwise_ne, List.pairwise_map]
    exact (sorB_t ko2.1).imp (fun h e => by omega))
  rw [hl] at h
  exact h
set_option maxRecDepth 100000 in
theorem kp3 : allB (fun i => perB 3 (unL 3 i)) 0 6 = true := by decide +kernel
set_option maxRecDepth 100000 in
theorem ks3 : allB (stepB 3) 0 5 = true := by decide +kernel
theorem kz3 : eqL (unL 3 0) (List.range 3) = true ∧ fPl (unL 3 5) 2 = 0 ∧ fct 3 = 6 := by decide +kernel
set_option maxRecDepth 100000 in
theorem kt3 : runT 3 6 6 TT3 = true := by decide +kernel
set_option maxRecDepth 100000 in
theorem kc3 : ckP 3 (covB 3) 3 [] = true := by decide +kernel
theorem ko3 : sorB TT3 = true ∧ TT3.length = 6 := by decide +kernel
theorem run3 : isRun 3 (fct 3) (unL 3) := by
  have hz := kz3
  have hs := allB_t ks3
  have hp := allB_t kp3
  rw [hz.2.2]
  refine ⟨by decide, fun j hj => ?_, fun i hi => perB_t (hp i (Nat.zero_le _) (by omega)), fun i hi => ?_, hz.2.1⟩
  · rw [eqL_t hz.1]
    unfold rowL
    rw [List.getD_eq_getElem?_getD, List.getElem?_range hj]
    rfl
  · have h := hs i (Nat.zero_le _) (by omega)
    unfold stepB at h
    rw [Bool.and_eq_true] at h
    exact ⟨fun e => by rw [e] at h; exact absurd h.1 (by decide), eqL_t h.2⟩
theorem pfx3 : pfx 3 (unL 3) (fct 3) = TT3.map (fun c : Nat => (c : Int)) := by
  have hr := run3
  have hz := kz3
  rw [hz.2.2] at hr ⊢
  have h := runT_t hr.2.2.1 6 TT3 (Nat.le_refl _) kt3
  rw [Nat.sub_self] at h
  rw [h]
  rfl
theorem OT3 : OT 3 6 (fun k => (pfx 3 (unL 3) (fct 3)).getD k 0) := by
  have hl : (pfx 3 (unL 3) (fct 3)).length = 6 := by rw [pfx3, List.length_map]; exact ko3.2
  have h := OT_of (n := 3) (by decide) run3 kc3 (by rw [hl]; decide) (by
    rw [pfx3, List.nodup_iff_pairwise_ne, List.pairwise_map]
    exact (sorB_t ko3.1).imp (fun h e => by omega))
  rw [hl] at h
  exact h
set_option maxRecDepth 100000 in
theorem kp4 : allB (fun i => perB 4 (unL 4 i)) 0 24 = true := by decide +kernel
set_option maxRecDepth 100000 in
theorem ks4 : allB (stepB 4) 0 23 = true := by decide +kernel
theorem kz4 : eqL (unL 4 0) (List.range 4) = true ∧ fPl (unL 4 23) 3 = 0 ∧ fct 4 = 24 := by decide +kernel
set_option maxRecDepth 100000 in
theorem kt4 : runT 4 24 24 TT4 = true := by decide +kernel
set_option maxRecDepth 100000 in
theorem kc4 : ckP 4 (covB 4) 4 [] = true := by decide +kernel
theorem ko4 : sorB TT4 = true ∧ TT4.length = 16 := by decide +kernel
theorem run4 : isRun 4 (fct 4) (unL 4) := by
  have hz := kz4
  have hs := allB_t ks4
  have hp := allB_t kp4
  rw [hz.2.2]
  refine ⟨by decide, fun j hj => ?_, fun i hi => perB_t (hp i (Nat.zero_le _) (by omega)), fun i hi => ?_, hz.2.1⟩
  · rw [eqL_t hz.1]
    unfold rowL
    rw [List.getD_eq_getElem?_getD, List.getElem?_range hj]
    rfl
  · have h := hs i (Nat.zero_le _) (by omega)
    unfold stepB at h
    rw [Bool.and_eq_true] at h
    exact ⟨fun e => by rw [e] at h; exact absurd h.1 (by decide), eqL_t h.2⟩
theorem pfx4 : pfx 4 (unL 4) (fct 4) = TT4.map (fun c : Nat => (c : Int)) := by
  have hr := run4
  have hz := kz4
  rw [hz.2.2] at hr ⊢
  have h := runT_t hr.2.2.1 24 TT4 (Nat.le_refl _) kt4
  rw [Nat.sub_self] at h
  rw [h]
  rfl
theorem OT4 : OT 4 16 (fun k => (pfx 4 (unL 4) (fct 4)).getD k 0) := by
  have hl : (pfx 4 (unL 4) (fct 4)).length = 16 := by rw [pfx4, List.length_map]; exact ko4.2
  have h := OT_of (n := 4) (by decide) run4 kc4 (by rw [hl]; decide) (by
    rw [pfx4, List.nodup_iff_pairwise_ne, List.pairwise_map]
    exact (sorB_t ko4.1).imp (fun h e => by omega))
  rw [hl] at h
  exact h
set_option maxRecDepth 100000 in
theorem kp5 : allB (fun i => perB 5 (unL 5 i)) 0 120 = true := by decide +kernel
set_option maxRecDepth 100000 in
theorem ks5 : allB (stepB 5) 0 119 = true := by decide +kernel
theorem kz5 : eqL (unL 5 0) (List.range 5) = true ∧ fPl (unL 5 119) 4 = 0 ∧ fct 5 = 120 := by decide +kernel
set_option maxRecDepth 100000 in
theorem kt5 : runT 5 120 120 TT5 = true := by decide +kernel
set_option maxRecDepth 100000 in
theorem kc5 : ckP 5 (covB 5) 5 [] = true := by decide +kernel
theorem ko5 : sorB TT5 = true ∧ TT5.length = 50 := by decide +kernel
theorem run5 : isRun 5 (fct 5) (unL 5) := by
  have hz := kz5
  have hs := allB_t ks5
  have hp := allB_t kp5
  rw [hz.2.2]
  refine ⟨by decide, fun j hj => ?_, fun i hi => perB_t (hp i (Nat.zero_le _) (by omega)), fun i hi => ?_, hz.2.1⟩
  · rw [eqL_t hz.1]
    unfold rowL
    rw [List.getD_eq_getElem?_getD, List.getElem?_range hj]
    rfl
  · have h := hs i (Nat.zero_le _) (by omega)
    unfold stepB at h
    rw [Bool.and_eq_true] at h
    exact ⟨fun e => by rw [e] at h; exact absurd h.1 (by decide), eqL_t h.2⟩
theorem pfx5 : pfx 5 (unL 5) (fct 5) = TT5.map (fun c : Nat => (c : Int)) := by
  have hr := run5
  have hz := kz5
  rw [hz.2.2] at hr ⊢
  have h := runT_t hr.2.2.1 120 TT5 (Nat.le_refl _) kt5
  rw [Nat.sub_self] at h
  rw [h]
  rfl
theorem OT5 : OT 5 50 (fun k => (pfx 5 (unL 5) (fct 5)).getD k 0) := by
  have hl : (pfx 5 (unL 5) (fct 5)).length = 50 := by rw [pfx5, List.length_map]; exact ko5.2
  have h := OT_of (n := 5) (by decide) run5 kc5 (by rw [hl]; decide) (by
    rw [pfx5, List.nodup_iff_pairwise_ne, List.pairwise_map]
    exact (sorB_t ko5.1).imp (fun h e => by omega))
  rw [hl] at h
  exact h
set_option maxRecDepth 100000 in
theorem kp6 : allB (fun i => perB 6 (unL 6 i)) 0 720 = true := by decide +kernel
set_option maxRecDepth 100000 in
theorem ks6 : allB (stepB 6) 0 719 = true := by decide +kernel
theorem kz6 : eqL (unL 6 0) (List.range 6) = true ∧ fPl (unL 6 719) 5 = 0 ∧ fct 6 = 720 := by decide +kernel
set_option maxRecDepth 100000 in
theorem kt6 : runT 6 720 720 TT6 = true := by decide +kernel
set_option maxRecDepth 100000 in
theorem kc6 : ckP 6 (covB 6) 6 [] = true := by decide +kernel
theorem ko6 : sorB TT6 = true ∧ TT6.length = 144 := by decide +kernel
theorem run6 : isRun 6 (fct 6) (unL 6) := by
  have hz := kz6
  have hs := allB_t ks6
  have hp := allB_t kp6
  rw [hz.2.2]
  refine ⟨by decide, fun j hj => ?_, fun i hi => perB_t (hp i (Nat.zero_le _) (by omega)), fun i hi => ?_, hz.2.1⟩
  · rw [eqL_t hz.1]
    unfold rowL
    rw [List.getD_eq_getElem?_getD, List.getElem?_range hj]
    rfl
  · have h := hs i (Nat.zero_le _) (by omega)
    unfold stepB at h
    rw [Bool.and_eq_true] at h
    exact ⟨fun e => by rw [e] at h; exact absurd h.1 (by decide), eqL_t h.2⟩
theorem pfx6 : pfx 6 (unL 6) (fct 6) = TT6.map (fun c : Nat => (c : Int)) := by
  have hr := run6
  have hz := kz6
  rw [hz.2.2] at hr ⊢
  have h := runT_t hr.2.2.1 720 TT6 (Nat.le_refl _) kt6
  rw [Nat.sub_self] at h
  rw [h]
  rfl
theorem OT6 : OT 6 144 (fun k => (pfx 6 (unL 6) (fct 6)).getD k 0) := by
  have hl : (pfx 6 (unL 6) (fct 6)).length = 144 := by rw [pfx6, List.length_map]; exact ko6.2
  have h := OT_of (n := 6) (by decide) run6 kc6 (by rw [hl]; decide) (by
    rw [pfx6, List.nodup_iff_pairwise_ne, List.pairwise_map]
    exact (sorB_t ko6.1).imp (fun h e => by omega))
  rw [hl] at h
  exact h
set_option maxRecDepth 100000 in
theorem kp7 : allB (fun i => perB 7 (unL 7 i)) 0 5040 = true := by decide +kernel
set_option maxRecDepth 100000 in
theorem ks7 : allB (stepB 7) 0 5039 = true := by decide +kernel
theorem kz7 : eqL (unL 7 0) (List.range 7) = true ∧ fPl (unL 7 5039) 6 = 0 ∧ fct 7 = 5040 := by decide +kernel
set_option maxRecDepth 100000 in
theorem kt7 : runT 7 5040 5040 TT7 = true := by decide +kernel
set_option maxRecDepth 100000 in
theorem kc7 : ckP 7 (covB 7) 7 [] = true := by decide +kernel
theorem ko7 : sorB TT7 = true ∧ TT7.length = 462 := by decide +kernel
theorem run7 : isRun 7 (fct 7) (unL 7) := by
  have hz := kz7
  have hs := allB_t ks7
  have hp := allB_t kp7
  rw [hz.2.2]
  refine ⟨by decide, fun j hj => ?_, fun i hi => perB_t (hp i (Nat.zero_le _) (by omega)), fun i hi => ?_, hz.2.1⟩
  · rw [eqL_t hz.1]
    unfold rowL
    rw [List.getD_eq_getElem?_getD, List.getElem?_range hj]
    rfl
  · have h := hs i (Nat.zero_le _) (by omega)
    unfold stepB at h
    rw [Bool.and_eq_true] at h
    exact ⟨fun e => by rw [e] at h; exact absurd h.1 (by decide), eqL_t h.2⟩
theorem pfx7 : pfx 7 (unL 7) (fct 7) = TT7.map (fun c : Nat => (c : Int)) := by
  have hr := run7
  have hz := kz7
  rw [hz.2.2] at hr ⊢
  have h := runT_t hr.2.2.1 5040 TT7 (Nat.le_refl _) kt7
  rw [Nat.sub_self] at h
  rw [h]
  rfl
theorem OT7 : OT 7 462 (fun k => (pfx 7 (unL 7) (fct 7)).getD k 0) := by
  have hl : (pfx 7 (unL 7) (fct 7)).length = 462 := by rw [pfx7, List.length_map]; exact ko7.2
  have h := OT_of (n := 7) (by decide) run7 kc7 (by rw [hl]; decide) (by
    rw [pfx7, List.nodup_iff_pairwise_ne, List.pairwise_map]
    exact (sorB_t ko7.1).imp (fun h e => by omega))
  rw [hl] at h
  exact h
