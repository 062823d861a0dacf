/-! the words of the tables that every method takes along, and those of nest mates -/
def sv_T : List Cond := lw_tbl.filter goodWord
theorem sv_T_good : GoodIn sv_T sv_T := fun w h => ⟨h, good_of_word (List.mem_filter.mp h).2⟩
theorem sv_in {w : Cond} (i : Nat) (h : lw_tbl[i]? = some w) (hg : goodWord w = true) : w ∈ sv_T := List.mem_filter.mpr ⟨List.mem_of_getElem? h, hg⟩
theorem sv_ins (ws : List Cond) (ps : List Nat) (hp : ws = ps.filterMap (fun i => lw_tbl[i]?)) (h : ws.all goodWord = true) : ∀ w ∈ ws, w ∈ sv_T := by
  intro w hw
  have h1 := List.all_eq_true.mp h w hw
  rw [hp] at hw
  obtain ⟨i, -, hi⟩ := List.mem_filterMap.mp hw
  exact sv_in i hi h1
theorem svX0_in : ∀ w ∈ wsX00, w ∈ sv_T := sv_ins _ [480, 482, 484, 486, 488, 490] (by decide +kernel) (by decide +kernel)
theorem svX1_in : ∀ w ∈ wsX10, w ∈ sv_T := sv_ins _ [399, 401, 403, 405, 407, 409] (by decide +kernel) (by decide +kernel)
theorem svX2_in : ∀ w ∈ wsX20, w ∈ sv_T := sv_ins _ [216, 218, 220, 222, 224, 226] (by decide +kernel) (by decide +kernel)
theorem svX3_in : ∀ w ∈ wsX30, w ∈ sv_T := sv_ins _ [168, 170, 172, 174, 176, 178, 180, 182, 184, 186] (by decide +kernel) (by decide +kernel)
theorem svX4_in : ∀ w ∈ wsX40, w ∈ sv_T := sv_ins _ [235, 237, 239, 241, 243] (by decide +kernel) (by decide +kernel)
theorem svX5_in : ∀ w ∈ wsX50, w ∈ sv_T := sv_ins _ [302, 304, 306, 308, 310, 312, 314, 316, 318, 320, 322, 324] (by decide +kernel) (by decide +kernel)
theorem svX6_in : ∀ w ∈ wsX60, w ∈ sv_T := sv_ins _ [334, 336, 338, 340, 342] (by decide +kernel) (by decide +kernel)
theorem svX7_in : ∀ w ∈ wsX70, w ∈ sv_T := sv_ins _ [137, 139, 141, 143, 145] (by decide +kernel) (by decide +kernel)
theorem svX8_in : ∀ w ∈ wsX80, w ∈ sv_T := sv_ins _ [508, 510, 512] (by decide +kernel) (by decide +kernel)
theorem svX9_in : ∀ w ∈ wsX90, w ∈ sv_T := sv_ins _ [363, 365, 367, 369, 371, 373, 375, 377, 379, 381, 383] (by decide +kernel) (by decide +kernel)
theorem svX10_in : ∀ w ∈ wsX100, w ∈ sv_T := sv_ins _ [435, 437, 439, 441, 443, 445, 447, 449, 451, 453, 455, 457, 459, 461, 463] (by decide +kernel) (by decide +kernel)
theorem svX11_in : ∀ w ∈ wsX110, w ∈ sv_T := sv_ins _ [527, 529, 531, 533, 535, 537, 539, 541, 543, 545, 547] (by decide +kernel) (by decide +kernel)
theorem svX12_in : ∀ w ∈ wsX120, w ∈ sv_T := sv_ins _ [1381, 1383, 1385, 1387, 1389, 1391, 1393, 1395, 1397, 1399, 1401, 1403, 1405, 1407, 1409, 1411, 1413, 1415, 1417, 1419, 1421, 1423, 1425, 1427, 1429, 1431, 1433, 1435, 1437, 1439, 1441, 1443, 1445, 1447, 1449, 1451, 1453, 1455, 1457, 1459, 1461, 1463, 1465, 1467, 1469, 1471, 1473, 1475, 1477, 1479, 1481, 1483, 1485, 1487, 1489, 1491, 1493, 1495, 1497, 1499, 1501, 1503, 1505, 1507, 1509, 1511, 1513, 1515, 1517, 1519, 1521, 1523, 1525, 1527, 1529, 1531, 1533, 1535, 1537] (by decide +kernel) (by decide +kernel)
def sv_isN : Cond → Bool
  | .fieldLinkNest .. => true
  | .methodLinkNest .. => true
  | _ => false
def sv_N : List Cond := lw_tbl.filter sv_isN
theorem sv_inN {w : Cond} (i : Nat) (h : lw_tbl[i]? = some w) (hg : sv_isN w = true) : w ∈ sv_N := List.mem_filter.mpr ⟨List.mem_of_getElem? h, hg⟩
