/-! ===== the law is looked through ===== -/
theorem xcvb_drop {mi : Nat} : ∀ (n : Nat) {L R : List XE}, xcvb mi L = true → L.drop n = R → xcvb mi R = true
  | 0, _, _, h, e => by rw [← e]; exact h
  | _ + 1, [], _, _, e => by rw [← e]; rfl
  | n + 1, _ :: _, _, h, e => xcvb_drop n (xcvb_tl h) e
theorem xjvb_br {mi p : Nat} {l r : Lean.RArray (List XE)} (h1 : xjvb mi l = true) (h2 : xjvb mi r = true) : xjvb mi (.branch p l r) = true := by
  show (xjvb mi l && xjvb mi r) = true
  rw [h1, h2]; rfl
theorem xjvb_lf {mi : Nat} {L : List XE} (h : xcvb mi L = true) : xjvb mi (.leaf L) = true := h
set_option maxRecDepth 100000 in
theorem xlc_17 : xcvb 0 xc_0_2555 = true := xcvn_ok xl_17 (show xcvb 0 (List.drop 47 xc_0_2555) = true from by rw [show List.drop 47 xc_0_2555 = [] from rfl]; rfl)
set_option maxRecDepth 100000 in
theorem xlc_16 : xcvb 0 xc_0_2486 = true := xcvn_ok xl_16 (show xcvb 0 (List.drop 42 xc_0_2486) = true from by rw [show List.drop 42 xc_0_2486 = xc_0_2555 from rfl]; exact xlc_17)
set_option maxRecDepth 100000 in
theorem xlc_15 : xcvb 0 xc_0_2410 = true := xcvn_ok xl_15 (show xcvb 0 (List.drop 47 xc_0_2410) = true from by rw [show List.drop 47 xc_0_2410 = xc_0_2486 from rfl]; exact xlc_16)
set_option maxRecDepth 100000 in
theorem xlc_14 : xcvb 0 xc_0_2333 = true := xcvn_ok xl_14 (show xcvb 0 (List.drop 44 xc_0_2333) = true from by rw [show List.drop 44 xc_0_2333 = xc_0_2410 from rfl]; exact xlc_15)
set_option maxRecDepth 100000 in
theorem xlc_13 : xcvb 0 xc_0_2258 = true := xcvn_ok xl_13 (show xcvb 0 (List.drop 48 xc_0_2258) = true from by rw [show List.drop 48 xc_0_2258 = xc_0_2333 from rfl]; exact xlc_14)
set_option maxRecDepth 100000 in
theorem xlc_12 : xcvb 0 xc_0_2202 = true := xcvn_ok xl_12 (show xcvb 0 (List.drop 35 xc_0_2202) = true from by rw [show List.drop 35 xc_0_2202 = xc_0_2258 from rfl]; exact xlc_13)
set_option maxRecDepth 100000 in
theorem xlc_11 : xcvb 0 xc_0_2146 = true := xcvn_ok xl_11 (show xcvb 0 (List.drop 35 xc_0_2146) = true from by rw [show List.drop 35 xc_0_2146 = xc_0_2202 from rfl]; exact xlc_12)
set_option maxRecDepth 100000 in
theorem xlc_10 : xcvb 0 xc_0_2070 = true := xcvn_ok xl_10 (show xcvb 0 (List.drop 45 xc_0_2070) = true from by rw [show List.drop 45 xc_0_2070 = xc_0_2146 from rfl]; exact xlc_11)
set_option maxRecDepth 100000 in
theorem xlc_9 : xcvb 0 xc_0_2014 = true := xcvn_ok xl_9 (show xcvb 0 (List.drop 35 xc_0_2014) = true from by rw [show List.drop 35 xc_0_2014 = xc_0_2070 from rfl]; exact xlc_10)
set_option maxRecDepth 100000 in
theorem xlc_8 : xcvb 0 xc_0_1815 = true := xcvn_ok xl_8 (show xcvb 0 (List.drop 128 xc_0_1815) = true from by rw [show List.drop 128 xc_0_1815 = xc_0_2014 from rfl]; exact xlc_9)
set_option maxRecDepth 100000 in
theorem xlc_7 : xcvb 0 xc_0_1623 = true := xcvn_ok xl_7 (show xcvb 0 (List.drop 125 xc_0_1623) = true from by rw [show List.drop 125 xc_0_1623 = xc_0_1815 from rfl]; exact xlc_8)
set_option maxRecDepth 100000 in
theorem xlc_6 : xcvb 0 xc_0_1443 = true := xcvn_ok xl_6 (show xcvb 0 (List.drop 115 xc_0_1443) = true from by rw [show List.drop 115 xc_0_1443 = xc_0_1623 from rfl]; exact xlc_7)
set_option maxRecDepth 100000 in
theorem xlc_5 : xcvb 0 xc_0_1223 = true := xcvn_ok xl_5 (show xcvb 0 (List.drop 130 xc_0_1223) = true from by rw [show List.drop 130 xc_0_1223 = xc_0_1443 from rfl]; exact xlc_6)
set_option maxRecDepth 100000 in
theorem xlc_4 : xcvb 0 xc_0_1029 = true := xcvn_ok xl_4 (show xcvb 0 (List.drop 119 xc_0_1029) = true from by rw [show List.drop 119 xc_0_1029 = xc_0_1223 from rfl]; exact xlc_5)
set_option maxRecDepth 100000 in
theorem xlc_3 : xcvb 0 xc_0_841 = true := xcvn_ok xl_3 (show xcvb 0 (List.drop 115 xc_0_841) = true from by rw [show List.drop 115 xc_0_841 = xc_0_1029 from rfl]; exact xlc_4)
set_option maxRecDepth 100000 in
theorem xlc_2 : xcvb 0 xc_0_622 = true := xcvn_ok xl_2 (show xcvb 0 (List.drop 124 xc_0_622) = true from by rw [show List.drop 124 xc_0_622 = xc_0_841 from rfl]; exact xlc_3)
set_option maxRecDepth 100000 in
theorem xlc_1 : xcvb 0 xc_0_416 = true := xcvn_ok xl_1 (show xcvb 0 (List.drop 129 xc_0_416) = true from by rw [show List.drop 129 xc_0_416 = xc_0_622 from rfl]; exact xlc_2)
set_option maxRecDepth 100000 in
theorem xlc_0 : xcvb 0 xc_0_0 = true := xcvn_ok xl_0 (show xcvb 0 (List.drop 123 xc_0_0) = true from by rw [show List.drop 123 xc_0_0 = xc_0_416 from rfl]; exact xlc_1)
theorem xlb_0 : xcvb 0 xc_0_0 = true := xlc_0
set_option maxRecDepth 100000 in
theorem xlb_23 : xcvb 0 xc_0_23 = true := xcvb_drop 13 xlb_0 rfl
set_option maxRecDepth 100000 in
theorem xlb_276 : xcvb 0 xc_0_276 = true := xcvb_drop 12 xlb_23 rfl
set_option maxRecDepth 100000 in
theorem xlb_360 : xcvb 0 xc_0_360 = true := xcvb_drop 63 xlb_276 rfl
set_option maxRecDepth 100000 in
theorem xlb_377 : xcvb 0 xc_0_377 = true := xcvb_drop 11 xlb_360 rfl
set_option maxRecDepth 100000 in
theorem xlb_380 : xcvb 0 xc_0_380 = true := xcvb_drop 1 xlb_377 rfl
set_option maxRecDepth 100000 in
theorem xlb_416 : xcvb 0 xc_0_416 = true := xcvb_drop 23 xlb_380 rfl
set_option maxRecDepth 100000 in
theorem xlb_433 : xcvb 0 xc_0_433 = true := xcvb_drop 11 xlb_416 rfl
set_option maxRecDepth 100000 in
theorem xlb_436 : xcvb 0 xc_0_436 = true := xcvb_drop 1 xlb_433 rfl
set_option maxRecDepth 100000 in
theorem xlb_449 : xcvb 0 xc_0_449 = true := xcvb_drop 7 xlb_436 rfl
set_option maxRecDepth 100000 in
theorem xlb_462 : xcvb 0 xc_0_462 = true := xcvb_drop 7 xlb_449 rfl
set_option maxRecDepth 100000 in
theorem xlb_498 : xcvb 0 xc_0_498 = true := xcvb_drop 23 xlb_462 rfl
set_option maxRecDepth 100000 in
theorem xlb_515 : xcvb 0 xc_0_515 = true := xcvb_drop 11 xlb_498 rfl
set_option maxRecDepth 100000 in
theorem xlb_518 : xcvb 0 xc_0_518 = true := xcvb_drop 1 xlb_515 rfl
set_option maxRecDepth 100000 in
theorem xlb_554 : xcvb 0 xc_0_554 = true := xcvb_drop 23 xlb_518 rfl
set_option maxRecDepth 100000 in
theorem xlb_571 : xcvb 0 xc_0_571 = true := xcvb_drop 11 xlb_554 rfl
set_option maxRecDepth 100000 in
theorem xlb_574 : xcvb 0 xc_0_574 = true := xcvb_drop 1 xlb_571 rfl
set_option maxRecDepth 100000 in
theorem xlb_622 : xcvb 0 xc_0_622 = true := xcvb_drop 33 xlb_574 rfl
set_option maxRecDepth 100000 in
theorem xlb_639 : xcvb 0 xc_0_639 = true := xcvb_drop 11 xlb_622 rfl
set_option maxRecDepth 100000 in
theorem xlb_642 : xcvb 0 xc_0_642 = true := xcvb_drop 1 xlb_639 rfl
set_option maxRecDepth 100000 in
theorem xlb_655 : xcvb 0 xc_0_655 = true := xcvb_drop 7 xlb_642 rfl
set_option maxRecDepth 100000 in
theorem xlb_668 : xcvb 0 xc_0_668 = true := xcvb_drop 7 xlb_655 rfl
set_option maxRecDepth 100000 in
theorem xlb_681 : xcvb 0 xc_0_681 = true := xcvb_drop 7 xlb_668 rfl
set_option maxRecDepth 100000 in
theorem xlb_694 : xcvb 0 xc_0_694 = true := xcvb_drop 7 xlb_681 rfl
set_option maxRecDepth 100000 in
theorem xlb_707 : xcvb 0 xc_0_707 = true := xcvb_drop 7 xlb_694 rfl
set_option maxRecDepth 100000 in
theorem xlb_720 : xcvb 0 xc_0_720 = true := xcvb_drop 7 xlb_707 rfl
set_option maxRecDepth 100000 in
theorem xlb_733 : xcvb 0 xc_0_733 = true := xcvb_drop 7 xlb_720 rfl
set_option maxRecDepth 100000 in
theorem xlb_746 : xcvb 0 xc_0_746 = true := xcvb_drop 7 xlb_733 rfl
set_option maxRecDepth 100000 in
theorem xlb_759 : xcvb 0 xc_0_759 = true := xcvb_drop 7 xlb_746 rfl
set_option maxRecDepth 100000 in
theorem xlb_772 : xcvb 0 xc_0_772 = true := xcvb_drop 7 xlb_759 rfl
set_option maxRecDepth 100000 in
theorem xlb_785 : xcvb 0 xc_0_785 = true := xcvb_drop 7 xlb_772 rfl
set_option maxRecDepth 100000 in
theorem xlb_821 : xcvb 0 xc_0_821 = true := xcvb_drop 23 xlb_785 rfl
set_option maxRecDepth 100000 in
theorem xlb_838 : xcvb 0 xc_0_838 = true := xcvb_drop 11 xlb_821 rfl
set_option maxRecDepth 100000 in
theorem xlb_841 : xcvb 0 xc_0_841 = true := xcvb_drop 1 xlb_838 rfl
set_option maxRecDepth 100000 in
theorem xlb_877 : xcvb 0 xc_0_877 = true := xcvb_drop 23 xlb_841 rfl
set_option maxRecDepth 100000 in
theorem xlb_894 : xcvb 0 xc_0_894 = true := xcvb_drop 11 xlb_877 rfl
set_option maxRecDepth 100000 in
theorem xlb_897 : xcvb 0 xc_0_897 = true := xcvb_drop 1 xlb_894 rfl
set_option maxRecDepth 100000 in
theorem xlb_933 : xcvb 0 xc_0_933 = true := xcvb_drop 23 xlb_897 rfl
set_option maxRecDepth 100000 in
theorem xlb_950 : xcvb 0 xc_0_950 = true := xcvb_drop 9 xlb_933 rfl
set_option maxRecDepth 100000 in
theorem xlb_951 : xcvb 0 xc_0_951 = true := xcvb_drop 1 xlb_950 rfl
set_option maxRecDepth 100000 in
theorem xlb_957 : xcvb 0 xc_0_957 = true := xcvb_drop 4 xlb_951 rfl
set_option maxRecDepth 100000 in
theorem xlb_960 : xcvb 0 xc_0_960 = true := xcvb_drop 1 xlb_957 rfl
set_option maxRecDepth 100000 in
theorem xlb_973 : xcvb 0 xc_0_973 = true := xcvb_drop 7 xlb_960 rfl
set_option maxRecDepth 100000 in
theorem xlb_1009 : xcvb 0 xc_0_1009 = true := xcvb_drop 23 xlb_973 rfl
set_option maxRecDepth 100000 in
theorem xlb_1026 : xcvb 0 xc_0_1026 = true := xcvb_drop 11 xlb_1009 rfl
set_option maxRecDepth 100000 in
theorem xlb_1029 : xcvb 0 xc_0_1029 = true := xcvb_drop 1 xlb_1026 rfl
set_option maxRecDepth 100000 in
theorem xlb_1065 : xcvb 0 xc_0_1065 = true := xcvb_drop 23 xlb_1029 rfl
set_option maxRecDepth 100000 in
theorem xlb_1082 : xcvb 0 xc_0_1082 = true := xcvb_drop 11 xlb_1065 rfl
set_option maxRecDepth 100000 in
theorem xlb_1085 : xcvb 0 xc_0_1085 = true := xcvb_drop 1 xlb_1082 rfl
set_option maxRecDepth 100000 in
theorem xlb_1098 : xcvb 0 xc_0_1098 = true := xcvb_drop 7 xlb_1085 rfl
set_option maxRecDepth 100000 in
theorem xlb_1111 : xcvb 0 xc_0_1111 = true := xcvb_drop 7 xlb_1098 rfl
set_option maxRecDepth 100000 in
theorem xlb_1147 : xcvb 0 xc_0_1147 = true := xcvb_drop 23 xlb_1111 rfl
set_option maxRecDepth 100000 in
theorem xlb_1164 : xcvb 0 xc_0_1164 = true := xcvb_drop 11 xlb_1147 rfl
set_option maxRecDepth 100000 in
theorem xlb_1167 : xcvb 0 xc_0_1167 = true := xcvb_drop 1 xlb_1164 rfl
set_option maxRecDepth 100000 in
theorem xlb_1203 : xcvb 0 xc_0_1203 = true := xcvb_drop 23 xlb_1167 rfl
set_option maxRecDepth 100000 in
theorem xlb_1220 : xcvb 0 xc_0_1220 = true := xcvb_drop 11 xlb_1203 rfl
set_option maxRecDepth 100000 in
theorem xlb_1223 : xcvb 0 xc_0_1223 = true := xcvb_drop 1 xlb_1220 rfl
set_option maxRecDepth 100000 in
theorem xlb_1247 : xcvb 0 xc_0_1247 = true := xcvb_drop 13 xlb_1223 rfl
set_option maxRecDepth 100000 in
theorem xlb_1264 : xcvb 0 xc_0_1264 = true := xcvb_drop 11 xlb_1247 rfl
set_option maxRecDepth 100000 in
theorem xlb_1267 : xcvb 0 xc_0_1267 = true := xcvb_drop 1 xlb_1264 rfl
set_option maxRecDepth 100000 in
theorem xlb_1291 : xcvb 0 xc_0_1291 = true := xcvb_drop 13 xlb_1267 rfl
set_option maxRecDepth 100000 in
theorem xlb_1308 : xcvb 0 xc_0_1308 = true := xcvb_drop 11 xlb_1291 rfl
set_option maxRecDepth 100000 in
theorem xlb_1311 : xcvb 0 xc_0_1311 = true := xcvb_drop 1 xlb_1308 rfl
set_option maxRecDepth 100000 in
theorem xlb_1324 : xcvb 0 xc_0_1324 = true := xcvb_drop 7 xlb_1311 rfl
set_option maxRecDepth 100000 in
theorem xlb_1360 : xcvb 0 xc_0_1360 = true := xcvb_drop 23 xlb_1324 rfl
set_option maxRecDepth 100000 in
theorem xlb_1377 : xcvb 0 xc_0_1377 = true := xcvb_drop 9 xlb_1360 rfl
set_option maxRecDepth 100000 in
theorem xlb_1378 : xcvb 0 xc_0_1378 = true := xcvb_drop 1 xlb_1377 rfl
set_option maxRecDepth 100000 in
theorem xlb_1384 : xcvb 0 xc_0_1384 = true := xcvb_drop 4 xlb_1378 rfl
set_option maxRecDepth 100000 in
theorem xlb_1387 : xcvb 0 xc_0_1387 = true := xcvb_drop 1 xlb_1384 rfl
set_option maxRecDepth 100000 in
theorem xlb_1423 : xcvb 0 xc_0_1423 = true := xcvb_drop 23 xlb_1387 rfl
set_option maxRecDepth 100000 in
theorem xlb_1440 : xcvb 0 xc_0_1440 = true := xcvb_drop 11 xlb_1423 rfl
set_option maxRecDepth 100000 in
theorem xlb_1443 : xcvb 0 xc_0_1443 = true := xcvb_drop 1 xlb_1440 rfl
set_option maxRecDepth 100000 in
theorem xlb_1479 : xcvb 0 xc_0_1479 = true := xcvb_drop 23 xlb_1443 rfl
set_option maxRecDepth 100000 in
theorem xlb_1496 : xcvb 0 xc_0_1496 = true := xcvb_drop 11 xlb_1479 rfl
set_option maxRecDepth 100000 in
theorem xlb_1499 : xcvb 0 xc_0_1499 = true := xcvb_drop 1 xlb_1496 rfl
set_option maxRecDepth 100000 in
theorem xlb_1535 : xcvb 0 xc_0_1535 = true := xcvb_drop 23 xlb_1499 rfl
set_option maxRecDepth 100000 in
theorem xlb_1552 : xcvb 0 xc_0_1552 = true := xcvb_drop 11 xlb_1535 rfl
set_option maxRecDepth 100000 in
theorem xlb_1555 : xcvb 0 xc_0_1555 = true := xcvb_drop 1 xlb_1552 rfl
set_option maxRecDepth 100000 in
theorem xlb_1603 : xcvb 0 xc_0_1603 = true := xcvb_drop 33 xlb_1555 rfl
set_option maxRecDepth 100000 in
theorem xlb_1620 : xcvb 0 xc_0_1620 = true := xcvb_drop 11 xlb_1603 rfl
set_option maxRecDepth 100000 in
theorem xlb_1623 : xcvb 0 xc_0_1623 = true := xcvb_drop 1 xlb_1620 rfl
set_option maxRecDepth 100000 in
theorem xlb_1671 : xcvb 0 xc_0_1671 = true := xcvb_drop 33 xlb_1623 rfl
set_option maxRecDepth 100000 in
theorem xlb_1688 : xcvb 0 xc_0_1688 = true := xcvb_drop 11 xlb_1671 rfl
set_option maxRecDepth 100000 in
theorem xlb_1691 : xcvb 0 xc_0_1691 = true := xcvb_drop 1 xlb_1688 rfl
set_option maxRecDepth 100000 in
theorem xlb_1739 : xcvb 0 xc_0_1739 = true := xcvb_drop 33 xlb_1691 rfl
set_option maxRecDepth 100000 in
theorem xlb_1756 : xcvb 0 xc_0_1756 = true := xcvb_drop 11 xlb_1739 rfl
set_option maxRecDepth 100000 in
theorem xlb_1759 : xcvb 0 xc_0_1759 = true := xcvb_drop 1 xlb_1756 rfl
set_option maxRecDepth 100000 in
theorem xlb_1795 : xcvb 0 xc_0_1795 = true := xcvb_drop 23 xlb_1759 rfl
set_option maxRecDepth 100000 in
theorem xlb_1812 : xcvb 0 xc_0_1812 = true := xcvb_drop 11 xlb_1795 rfl
set_option maxRecDepth 100000 in
theorem xlb_1815 : xcvb 0 xc_0_1815 = true := xcvb_drop 1 xlb_1812 rfl
set_option maxRecDepth 100000 in
theorem xlb_1863 : xcvb 0 xc_0_1863 = true := xcvb_drop 33 xlb_1815 rfl
set_option maxRecDepth 100000 in
theorem xlb_1880 : xcvb 0 xc_0_1880 = true := xcvb_drop 11 xlb_1863 rfl
set_option maxRecDepth 100000 in
theorem xlb_1883 : xcvb 0 xc_0_1883 = true := xcvb_drop 1 xlb_1880 rfl
set_option maxRecDepth 100000 in
theorem xlb_1931 : xcvb 0 xc_0_1931 = true := xcvb_drop 33 xlb_1883 rfl
set_option maxRecDepth 100000 in
theorem xlb_1948 : xcvb 0 xc_0_1948 = true := xcvb_drop 9 xlb_1931 rfl
set_option maxRecDepth 100000 in
theorem xlb_1949 : xcvb 0 xc_0_1949 = true := xcvb_drop 1 xlb_1948 rfl
set_option maxRecDepth 100000 in
theorem xlb_1955 : xcvb 0 xc_0_1955 = true := xcvb_drop 4 xlb_1949 rfl
set_option maxRecDepth 100000 in
theorem xlb_1958 : xcvb 0 xc_0_1958 = true := xcvb_drop 1 xlb_1955 rfl
set_option maxRecDepth 100000 in
theorem xlb_1994 : xcvb 0 xc_0_1994 = true := xcvb_drop 23 xlb_1958 rfl
set_option maxRecDepth 100000 in
theorem xlb_2011 : xcvb 0 xc_0_2011 = true := xcvb_drop 11 xlb_1994 rfl
set_option maxRecDepth 100000 in
theorem xlb_2014 : xcvb 0 xc_0_2014 = true := xcvb_drop 1 xlb_2011 rfl
set_option maxRecDepth 100000 in
theorem xlb_2050 : xcvb 0 xc_0_2050 = true := xcvb_drop 23 xlb_2014 rfl
set_option maxRecDepth 100000 in
theorem xlb_2067 : xcvb 0 xc_0_2067 = true := xcvb_drop 11 xlb_2050 rfl
set_option maxRecDepth 100000 in
theorem xlb_2070 : xcvb 0 xc_0_2070 = true := xcvb_drop 1 xlb_2067 rfl
set_option maxRecDepth 100000 in
theorem xlb_2106 : xcvb 0 xc_0_2106 = true := xcvb_drop 23 xlb_2070 rfl
set_option maxRecDepth 100000 in
theorem xlb_2123 : xcvb 0 xc_0_2123 = true := xcvb_drop 9 xlb_2106 rfl
set_option maxRecDepth 100000 in
theorem xlb_2124 : xcvb 0 xc_0_2124 = true := xcvb_drop 1 xlb_2123 rfl
set_option maxRecDepth 100000 in
theorem xlb_2130 : xcvb 0 xc_0_2130 = true := xcvb_drop 4 xlb_2124 rfl
set_option maxRecDepth 100000 in
theorem xlb_2133 : xcvb 0 xc_0_2133 = true := xcvb_drop 1 xlb_2130 rfl
set_option maxRecDepth 100000 in
theorem xlb_2146 : xcvb 0 xc_0_2146 = true := xcvb_drop 7 xlb_2133 rfl
set_option maxRecDepth 100000 in
theorem xlb_2182 : xcvb 0 xc_0_2182 = true := xcvb_drop 23 xlb_2146 rfl
set_option maxRecDepth 100000 in
theorem xlb_2199 : xcvb 0 xc_0_2199 = true := xcvb_drop 11 xlb_2182 rfl
set_option maxRecDepth 100000 in
theorem xlb_2202 : xcvb 0 xc_0_2202 = true := xcvb_drop 1 xlb_2199 rfl
set_option maxRecDepth 100000 in
theorem xlb_2238 : xcvb 0 xc_0_2238 = true := xcvb_drop 23 xlb_2202 rfl
set_option maxRecDepth 100000 in
theorem xlb_2255 : xcvb 0 xc_0_2255 = true := xcvb_drop 11 xlb_2238 rfl
set_option maxRecDepth 100000 in
theorem xlb_2258 : xcvb 0 xc_0_2258 = true := xcvb_drop 1 xlb_2255 rfl
set_option maxRecDepth 100000 in
theorem xlb_2306 : xcvb 0 xc_0_2306 = true := xcvb_drop 33 xlb_2258 rfl
set_option maxRecDepth 100000 in
theorem xlb_2323 : xcvb 0 xc_0_2323 = true := xcvb_drop 9 xlb_2306 rfl
set_option maxRecDepth 100000 in
theorem xlb_2324 : xcvb 0 xc_0_2324 = true := xcvb_drop 1 xlb_2323 rfl
set_option maxRecDepth 100000 in
theorem xlb_2330 : xcvb 0 xc_0_2330 = true := xcvb_drop 4 xlb_2324 rfl
set_option maxRecDepth 100000 in
theorem xlb_2333 : xcvb 0 xc_0_2333 = true := xcvb_drop 1 xlb_2330 rfl
set_option maxRecDepth 100000 in
theorem xlb_2369 : xcvb 0 xc_0_2369 = true := xcvb_drop 18 xlb_2333 rfl
set_option maxRecDepth 100000 in
theorem xlb_2371 : xcvb 0 xc_0_2371 = true := xcvb_drop 2 xlb_2369 rfl
set_option maxRecDepth 100000 in
theorem xlb_2374 : xcvb 0 xc_0_2374 = true := xcvb_drop 1 xlb_2371 rfl
set_option maxRecDepth 100000 in
theorem xlb_2410 : xcvb 0 xc_0_2410 = true := xcvb_drop 23 xlb_2374 rfl
set_option maxRecDepth 100000 in
theorem xlb_2427 : xcvb 0 xc_0_2427 = true := xcvb_drop 11 xlb_2410 rfl
set_option maxRecDepth 100000 in
theorem xlb_2430 : xcvb 0 xc_0_2430 = true := xcvb_drop 1 xlb_2427 rfl
set_option maxRecDepth 100000 in
theorem xlb_2466 : xcvb 0 xc_0_2466 = true := xcvb_drop 23 xlb_2430 rfl
set_option maxRecDepth 100000 in
theorem xlb_2483 : xcvb 0 xc_0_2483 = true := xcvb_drop 11 xlb_2466 rfl
set_option maxRecDepth 100000 in
theorem xlb_2486 : xcvb 0 xc_0_2486 = true := xcvb_drop 1 xlb_2483 rfl
set_option maxRecDepth 100000 in
theorem xlb_2522 : xcvb 0 xc_0_2522 = true := xcvb_drop 23 xlb_2486 rfl
set_option maxRecDepth 100000 in
theorem xlb_2539 : xcvb 0 xc_0_2539 = true := xcvb_drop 11 xlb_2522 rfl
set_option maxRecDepth 100000 in
theorem xlb_2542 : xcvb 0 xc_0_2542 = true := xcvb_drop 1 xlb_2539 rfl
set_option maxRecDepth 100000 in
theorem xlb_2555 : xcvb 0 xc_0_2555 = true := xcvb_drop 7 xlb_2542 rfl
set_option maxRecDepth 100000 in
theorem xlb_2591 : xcvb 0 xc_0_2591 = true := xcvb_drop 23 xlb_2555 rfl
set_option maxRecDepth 100000 in
theorem xlb_2608 : xcvb 0 xc_0_2608 = true := xcvb_drop 11 xlb_2591 rfl
set_option maxRecDepth 100000 in
theorem xlb_2611 : xcvb 0 xc_0_2611 = true := xcvb_drop 1 xlb_2608 rfl
set_option maxRecDepth 100000 in
theorem xlb_2625 : xcvb 0 xc_0_2625 = true := xcvb_drop 8 xlb_2611 rfl
set_option maxRecDepth 100000 in
theorem xlb_2631 : xcvb 0 xc_0_2631 = true := xcvb_drop 2 xlb_2625 rfl
set_option maxRecDepth 100000 in
theorem xlj_0 : xjvb 0 xj_0 = true :=  xjvb_br ( xjvb_br ( xjvb_br ( xjvb_br ( xjvb_br ( xjvb_br ( xjvb_br (xjvb_lf xlb_23) (xjvb_lf xlb_276)) ( xjvb_br (xjvb_lf xlb_360) (xjvb_lf xlb_377))) ( xjvb_br ( xjvb_br (xjvb_lf xlb_380) (xjvb_lf xlb_416)) ( xjvb_br (xjvb_lf xlb_433) (xjvb_lf xlb_436)))) ( xjvb_br ( xjvb_br ( xjvb_br (xjvb_lf xlb_449) (xjvb_lf xlb_462)) ( xjvb_br (xjvb_lf xlb_498) (xjvb_lf xlb_515))) ( xjvb_br ( xjvb_br (xjvb_lf xlb_518) (xjvb_lf xlb_554)) ( xjvb_br (xjvb_lf xlb_571) ( xjvb_br (xjvb_lf xlb_574) (xjvb_lf xlb_622)))))) ( xjvb_br ( xjvb_br ( xjvb_br ( xjvb_br (xjvb_lf xlb_639) (xjvb_lf xlb_642)) ( xjvb_br (xjvb_lf xlb_655) (xjvb_lf xlb_668))) ( xjvb_br ( xjvb_br (xjvb_lf xlb_681) (xjvb_lf xlb_694)) ( xjvb_br (xjvb_lf xlb_707) (xjvb_lf xlb_720)))) ( xjvb_br ( xjvb_br ( xjvb_br (xjvb_lf xlb_733) (xjvb_lf xlb_746)) ( xjvb_br (xjvb_lf xlb_759) (xjvb_lf xlb_772))) ( xjvb_br ( xjvb_br (xjvb_lf xlb_785) (xjvb_lf xlb_821)) ( xjvb_br (xjvb_lf xlb_838) ( xjvb_br (xjvb_lf xlb_841) (xjvb_lf xlb_877))))))) ( xjvb_br ( xjvb_br ( xjvb_br ( xjvb_br ( xjvb_br (xjvb_lf xlb_894) (xjvb_lf xlb_897)) ( xjvb_br (xjvb_lf xlb_933) (xjvb_lf xlb_950))) ( xjvb_br ( xjvb_br (xjvb_lf xlb_951) (xjvb_lf xlb_957)) ( xjvb_br (xjvb_lf xlb_960) (xjvb_lf xlb_973)))) ( xjvb_br ( xjvb_br ( xjvb_br (xjvb_lf xlb_1009) (xjvb_lf xlb_1026)) ( xjvb_br (xjvb_lf xlb_1029) (xjvb_lf xlb_1065))) ( xjvb_br ( xjvb_br (xjvb_lf xlb_1082) (xjvb_lf xlb_1085)) ( xjvb_br (xjvb_lf xlb_1098) ( xjvb_br (xjvb_lf xlb_1111) (xjvb_lf xlb_1147)))))) ( xjvb_br ( xjvb_br ( xjvb_br ( xjvb_br (xjvb_lf xlb_1164) (xjvb_lf xlb_1167)) ( xjvb_br (xjvb_lf xlb_1203) (xjvb_lf xlb_1220))) ( xjvb_br ( xjvb_br (xjvb_lf xlb_1223) (xjvb_lf xlb_1247)) ( xjvb_br (xjvb_lf xlb_1264) ( xjvb_br (xjvb_lf xlb_1267) (xjvb_lf xlb_1291))))) ( xjvb_br ( xjvb_br ( xjvb_br (xjvb_lf xlb_1308) (xjvb_lf xlb_1311)) ( xjvb_br (xjvb_lf xlb_1324) (xjvb_lf xlb_1360))) ( xjvb_br ( xjvb_br (xjvb_lf xlb_1377) (xjvb_lf xlb_1378)) ( xjvb_br (xjvb_lf xlb_1384) ( xjvb_br (xjvb_lf xlb_1387) (xjvb_lf xlb_1423)))))))) ( xjvb_br ( xjvb_br ( xjvb_br ( xjvb_br ( xjvb_br ( xjvb_br (xjvb_lf xlb_1440) (xjvb_lf xlb_1443)) ( xjvb_br (xjvb_lf xlb_1479) (xjvb_lf xlb_1496))) ( xjvb_br ( xjvb_br (xjvb_lf xlb_1499) (xjvb_lf xlb_1535)) ( xjvb_br (xjvb_lf xlb_1552) (xjvb_lf xlb_1555)))) ( xjvb_br ( xjvb_br ( xjvb_br (xjvb_lf xlb_1603) (xjvb_lf xlb_1620)) ( xjvb_br (xjvb_lf xlb_1623) (xjvb_lf xlb_1671))) ( xjvb_br ( xjvb_br (xjvb_lf xlb_1688) (xjvb_lf xlb_1691)) ( xjvb_br (xjvb_lf xlb_1739) ( xjvb_br (xjvb_lf xlb_1756) (xjvb_lf xlb_1759)))))) ( xjvb_br ( xjvb_br ( xjvb_br ( xjvb_br (xjvb_lf xlb_1795) (xjvb_lf xlb_1812)) ( xjvb_br (xjvb_lf xlb_1815) (xjvb_lf xlb_1863))) ( xjvb_br ( xjvb_br (xjvb_lf xlb_1880) (xjvb_lf xlb_1883)) ( xjvb_br (xjvb_lf xlb_1931) (xjvb_lf xlb_1948)))) ( xjvb_br ( xjvb_br ( xjvb_br (xjvb_lf xlb_1949) (xjvb_lf xlb_1955)) ( xjvb_br (xjvb_lf xlb_1958) (xjvb_lf xlb_1994))) ( xjvb_br ( xjvb_br (xjvb_lf xlb_2011) (xjvb_lf xlb_2014)) ( xjvb_br (xjvb_lf xlb_2050) ( xjvb_br (xjvb_lf xlb_2067) (xjvb_lf xlb_2070))))))) ( xjvb_br ( xjvb_br ( xjvb_br ( xjvb_br ( xjvb_br (xjvb_lf xlb_2106) (xjvb_lf xlb_2123)) ( xjvb_br (xjvb_lf xlb_2124) (xjvb_lf xlb_2130))) ( xjvb_br ( xjvb_br (xjvb_lf xlb_2133) (xjvb_lf xlb_2146)) ( xjvb_br (xjvb_lf xlb_2182) (xjvb_lf xlb_2199)))) ( xjvb_br ( xjvb_br ( xjvb_br (xjvb_lf xlb_2202) (xjvb_lf xlb_2238)) ( xjvb_br (xjvb_lf xlb_2255) (xjvb_lf xlb_2258))) ( xjvb_br ( xjvb_br (xjvb_lf xlb_2306) (xjvb_lf xlb_2323)) ( xjvb_br (xjvb_lf xlb_2324) ( xjvb_br (xjvb_lf xlb_2330) (xjvb_lf xlb_2333)))))) ( xjvb_br ( xjvb_br ( xjvb_br ( xjvb_br (xjvb_lf xlb_2369) (xjvb_lf xlb_2371)) ( xjvb_br (xjvb_lf xlb_2374) (xjvb_lf xlb_2410))) ( xjvb_br ( xjvb_br (xjvb_lf xlb_2427) (xjvb_lf xlb_2430)) ( xjvb_br (xjvb_lf xlb_2466) ( xjvb_br (xjvb_lf xlb_2483) (xjvb_lf xlb_2486))))) ( xjvb_br ( xjvb_br ( xjvb_br (xjvb_lf xlb_2522) (xjvb_lf xlb_2539)) ( xjvb_br (xjvb_lf xlb_2542) (xjvb_lf xlb_2555))) ( xjvb_br ( xjvb_br (xjvb_lf xlb_2591) (xjvb_lf xlb_2608)) ( xjvb_br (xjvb_lf xlb_2611) ( xjvb_br (xjvb_lf xlb_2625) (xjvb_lf xlb_2631))))))))
