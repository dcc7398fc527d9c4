/-! ===== the law and the big methods are looked through ===== -/
theorem xcvb_drop {mi : Nat} : ∀ (n : Nat) {L R : List XE}, xcvb mi L = true → L.drop n = R → xcvb mi R = true
  | 0, _, _, h, e => by rw [← e]; exact h
  | _ + 1, [], _, _, e => by rw [← e]; rfl
  | n + 1, _ :: _, _, h, e => xcvb_drop n (xcvb_tl h) e
theorem xjvb_br {mi p : Nat} {l r : Lean.RArray (List XE)} (h1 : xjvb mi l = true) (h2 : xjvb mi r = true) : xjvb mi (.branch p l r) = true := by
  show (xjvb mi l && xjvb mi r) = true
  rw [h1, h2]; rfl
theorem xjvb_lf {mi : Nat} {L : List XE} (h : xcvb mi L = true) : xjvb mi (.leaf L) = true := h
set_option maxRecDepth 100000 in
theorem xlc_0_17 : xcvb 0 xc_0_2555 = true := xcvn_ok xl_0_17 (show xcvb 0 (List.drop 47 xc_0_2555) = true from by rw [show List.drop 47 xc_0_2555 = [] from rfl]; rfl)
set_option maxRecDepth 100000 in
theorem xlc_0_16 : xcvb 0 xc_0_2486 = true := xcvn_ok xl_0_16 (show xcvb 0 (List.drop 42 xc_0_2486) = true from by rw [show List.drop 42 xc_0_2486 = xc_0_2555 from rfl]; exact xlc_0_17)
set_option maxRecDepth 100000 in
theorem xlc_0_15 : xcvb 0 xc_0_2410 = true := xcvn_ok xl_0_15 (show xcvb 0 (List.drop 47 xc_0_2410) = true from by rw [show List.drop 47 xc_0_2410 = xc_0_2486 from rfl]; exact xlc_0_16)
set_option maxRecDepth 100000 in
theorem xlc_0_14 : xcvb 0 xc_0_2333 = true := xcvn_ok xl_0_14 (show xcvb 0 (List.drop 44 xc_0_2333) = true from by rw [show List.drop 44 xc_0_2333 = xc_0_2410 from rfl]; exact xlc_0_15)
set_option maxRecDepth 100000 in
theorem xlc_0_13 : xcvb 0 xc_0_2258 = true := xcvn_ok xl_0_13 (show xcvb 0 (List.drop 48 xc_0_2258) = true from by rw [show List.drop 48 xc_0_2258 = xc_0_2333 from rfl]; exact xlc_0_14)
set_option maxRecDepth 100000 in
theorem xlc_0_12 : xcvb 0 xc_0_2202 = true := xcvn_ok xl_0_12 (show xcvb 0 (List.drop 35 xc_0_2202) = true from by rw [show List.drop 35 xc_0_2202 = xc_0_2258 from rfl]; exact xlc_0_13)
set_option maxRecDepth 100000 in
theorem xlc_0_11 : xcvb 0 xc_0_2146 = true := xcvn_ok xl_0_11 (show xcvb 0 (List.drop 35 xc_0_2146) = true from by rw [show List.drop 35 xc_0_2146 = xc_0_2202 from rfl]; exact xlc_0_12)
set_option maxRecDepth 100000 in
theorem xlc_0_10 : xcvb 0 xc_0_2070 = true := xcvn_ok xl_0_10 (show xcvb 0 (List.drop 45 xc_0_2070) = true from by rw [show List.drop 45 xc_0_2070 = xc_0_2146 from rfl]; exact xlc_0_11)
set_option maxRecDepth 100000 in
theorem xlc_0_9 : xcvb 0 xc_0_2014 = true := xcvn_ok xl_0_9 (show xcvb 0 (List.drop 35 xc_0_2014) = true from by rw [show List.drop 35 xc_0_2014 = xc_0_2070 from rfl]; exact xlc_0_10)
set_option maxRecDepth 100000 in
theorem xlc_0_8 : xcvb 0 xc_0_1815 = true := xcvn_ok xl_0_8 (show xcvb 0 (List.drop 128 xc_0_1815) = true from by rw [show List.drop 128 xc_0_1815 = xc_0_2014 from rfl]; exact xlc_0_9)
set_option maxRecDepth 100000 in
theorem xlc_0_7 : xcvb 0 xc_0_1623 = true := xcvn_ok xl_0_7 (show xcvb 0 (List.drop 125 xc_0_1623) = true from by rw [show List.drop 125 xc_0_1623 = xc_0_1815 from rfl]; exact xlc_0_8)
set_option maxRecDepth 100000 in
theorem xlc_0_6 : xcvb 0 xc_0_1443 = true := xcvn_ok xl_0_6 (show xcvb 0 (List.drop 115 xc_0_1443) = true from by rw [show List.drop 115 xc_0_1443 = xc_0_1623 from rfl]; exact xlc_0_7)
set_option maxRecDepth 100000 in
theorem xlc_0_5 : xcvb 0 xc_0_1223 = true := xcvn_ok xl_0_5 (show xcvb 0 (List.drop 130 xc_0_1223) = true from by rw [show List.drop 130 xc_0_1223 = xc_0_1443 from rfl]; exact xlc_0_6)
set_option maxRecDepth 100000 in
theorem xlc_0_4 : xcvb 0 xc_0_1029 = true := xcvn_ok xl_0_4 (show xcvb 0 (List.drop 119 xc_0_1029) = true from by rw [show List.drop 119 xc_0_1029 = xc_0_1223 from rfl]; exact xlc_0_5)
set_option maxRecDepth 100000 in
theorem xlc_0_3 : xcvb 0 xc_0_841 = true := xcvn_ok xl_0_3 (show xcvb 0 (List.drop 115 xc_0_841) = true from by rw [show List.drop 115 xc_0_841 = xc_0_1029 from rfl]; exact xlc_0_4)
set_option maxRecDepth 100000 in
theorem xlc_0_2 : xcvb 0 xc_0_622 = true := xcvn_ok xl_0_2 (show xcvb 0 (List.drop 124 xc_0_622) = true from by rw [show List.drop 124 xc_0_622 = xc_0_841 from rfl]; exact xlc_0_3)
set_option maxRecDepth 100000 in
theorem xlc_0_1 : xcvb 0 xc_0_416 = true := xcvn_ok xl_0_1 (show xcvb 0 (List.drop 129 xc_0_416) = true from by rw [show List.drop 129 xc_0_416 = xc_0_622 from rfl]; exact xlc_0_2)
set_option maxRecDepth 100000 in
theorem xlc_0_0 : xcvb 0 xc_0_0 = true := xcvn_ok xl_0_0 (show xcvb 0 (List.drop 123 xc_0_0) = true from by rw [show List.drop 123 xc_0_0 = xc_0_416 from rfl]; exact xlc_0_1)
theorem xlb_0_0 : xcvb 0 xc_0_0 = true := xlc_0_0
set_option maxRecDepth 100000 in
theorem xlb_0_23 : xcvb 0 xc_0_23 = true := xcvb_drop 13 xlb_0_0 rfl
set_option maxRecDepth 100000 in
theorem xlb_0_276 : xcvb 0 xc_0_276 = true := xcvb_drop 12 xlb_0_23 rfl
set_option maxRecDepth 100000 in
theorem xlb_0_360 : xcvb 0 xc_0_360 = true := xcvb_drop 63 xlb_0_276 rfl
set_option maxRecDepth 100000 in
theorem xlb_0_377 : xcvb 0 xc_0_377 = true := xcvb_drop 11 xlb_0_360 rfl
set_option maxRecDepth 100000 in
theorem xlb_0_380 : xcvb 0 xc_0_380 = true := xcvb_drop 1 xlb_0_377 rfl
set_option maxRecDepth 100000 in
theorem xlb_0_416 : xcvb 0 xc_0_416 = true := xcvb_drop 23 xlb_0_380 rfl
set_option maxRecDepth 100000 in
theorem xlb_0_433 : xcvb 0 xc_0_433 = true := xcvb_drop 11 xlb_0_416 rfl
set_option maxRecDepth 100000 in
theorem xlb_0_436 : xcvb 0 xc_0_436 = true := xcvb_drop 1 xlb_0_433 rfl
set_option maxRecDepth 100000 in
theorem xlb_0_449 : xcvb 0 xc_0_449 = true := xcvb_drop 7 xlb_0_436 rfl
set_option maxRecDepth 100000 in
theorem xlb_0_462 : xcvb 0 xc_0_462 = true := xcvb_drop 7 xlb_0_449 rfl
set_option maxRecDepth 100000 in
theorem xlb_0_498 : xcvb 0 xc_0_498 = true := xcvb_drop 23 xlb_0_462 rfl
set_option maxRecDepth 100000 in
theorem xlb_0_515 : xcvb 0 xc_0_515 = true := xcvb_drop 11 xlb_0_498 rfl
set_option maxRecDepth 100000 in
theorem xlb_0_518 : xcvb 0 xc_0_518 = true := xcvb_drop 1 xlb_0_515 rfl
set_option maxRecDepth 100000 in
theorem xlb_0_554 : xcvb 0 xc_0_554 = true := xcvb_drop 23 xlb_0_518 rfl
set_option maxRecDepth 100000 in
theorem xlb_0_571 : xcvb 0 xc_0_571 = true := xcvb_drop 11 xlb_0_554 rfl
set_option maxRecDepth 100000 in
theorem xlb_0_574 : xcvb 0 xc_0_574 = true := xcvb_drop 1 xlb_0_571 rfl
set_option maxRecDepth 100000 in
theorem xlb_0_622 : xcvb 0 xc_0_622 = true := xcvb_drop 33 xlb_0_574 rfl
set_option maxRecDepth 100000 in
theorem xlb_0_639 : xcvb 0 xc_0_639 = true := xcvb_drop 11 xlb_0_622 rfl
set_option maxRecDepth 100000 in
theorem xlb_0_642 : xcvb 0 xc_0_642 = true := xcvb_drop 1 xlb_0_639 rfl
set_option maxRecDepth 100000 in
theorem xlb_0_655 : xcvb 0 xc_0_655 = true := xcvb_drop 7 xlb_0_642 rfl
set_option maxRecDepth 100000 in
theorem xlb_0_668 : xcvb 0 xc_0_668 = true := xcvb_drop 7 xlb_0_655 rfl
set_option maxRecDepth 100000 in
theorem xlb_0_681 : xcvb 0 xc_0_681 = true := xcvb_drop 7 xlb_0_668 rfl
set_option maxRecDepth 100000 in
theorem xlb_0_694 : xcvb 0 xc_0_694 = true := xcvb_drop 7 xlb_0_681 rfl
set_option maxRecDepth 100000 in
theorem xlb_0_707 : xcvb 0 xc_0_707 = true := xcvb_drop 7 xlb_0_694 rfl
set_option maxRecDepth 100000 in
theorem xlb_0_720 : xcvb 0 xc_0_720 = true := xcvb_drop 7 xlb_0_707 rfl
set_option maxRecDepth 100000 in
theorem xlb_0_733 : xcvb 0 xc_0_733 = true := xcvb_drop 7 xlb_0_720 rfl
set_option maxRecDepth 100000 in
theorem xlb_0_746 : xcvb 0 xc_0_746 = true := xcvb_drop 7 xlb_0_733 rfl
set_option maxRecDepth 100000 in
theorem xlb_0_759 : xcvb 0 xc_0_759 = true := xcvb_drop 7 xlb_0_746 rfl
set_option maxRecDepth 100000 in
theorem xlb_0_772 : xcvb 0 xc_0_772 = true := xcvb_drop 7 xlb_0_759 rfl
set_option maxRecDepth 100000 in
theorem xlb_0_785 : xcvb 0 xc_0_785 = true := xcvb_drop 7 xlb_0_772 rfl
set_option maxRecDepth 100000 in
theorem xlb_0_821 : xcvb 0 xc_0_821 = true := xcvb_drop 23 xlb_0_785 rfl
set_option maxRecDepth 100000 in
theorem xlb_0_838 : xcvb 0 xc_0_838 = true := xcvb_drop 11 xlb_0_821 rfl
set_option maxRecDepth 100000 in
theorem xlb_0_841 : xcvb 0 xc_0_841 = true := xcvb_drop 1 xlb_0_838 rfl
set_option maxRecDepth 100000 in
theorem xlb_0_877 : xcvb 0 xc_0_877 = true := xcvb_drop 23 xlb_0_841 rfl
set_option maxRecDepth 100000 in
theorem xlb_0_894 : xcvb 0 xc_0_894 = true := xcvb_drop 11 xlb_0_877 rfl
set_option maxRecDepth 100000 in
theorem xlb_0_897 : xcvb 0 xc_0_897 = true := xcvb_drop 1 xlb_0_894 rfl
set_option maxRecDepth 100000 in
theorem xlb_0_933 : xcvb 0 xc_0_933 = true := xcvb_drop 23 xlb_0_897 rfl
set_option maxRecDepth 100000 in
theorem xlb_0_950 : xcvb 0 xc_0_950 = true := xcvb_drop 9 xlb_0_933 rfl
set_option maxRecDepth 100000 in
theorem xlb_0_951 : xcvb 0 xc_0_951 = true := xcvb_drop 1 xlb_0_950 rfl
set_option maxRecDepth 100000 in
theorem xlb_0_957 : xcvb 0 xc_0_957 = true := xcvb_drop 4 xlb_0_951 rfl
set_option maxRecDepth 100000 in
theorem xlb_0_960 : xcvb 0 xc_0_960 = true := xcvb_drop 1 xlb_0_957 rfl
set_option maxRecDepth 100000 in
theorem xlb_0_973 : xcvb 0 xc_0_973 = true := xcvb_drop 7 xlb_0_960 rfl
set_option maxRecDepth 100000 in
theorem xlb_0_1009 : xcvb 0 xc_0_1009 = true := xcvb_drop 23 xlb_0_973 rfl
set_option maxRecDepth 100000 in
theorem xlb_0_1026 : xcvb 0 xc_0_1026 = true := xcvb_drop 11 xlb_0_1009 rfl
set_option maxRecDepth 100000 in
theorem xlb_0_1029 : xcvb 0 xc_0_1029 = true := xcvb_drop 1 xlb_0_1026 rfl
set_option maxRecDepth 100000 in
theorem xlb_0_1065 : xcvb 0 xc_0_1065 = true := xcvb_drop 23 xlb_0_1029 rfl
set_option maxRecDepth 100000 in
theorem xlb_0_1082 : xcvb 0 xc_0_1082 = true := xcvb_drop 11 xlb_0_1065 rfl
set_option maxRecDepth 100000 in
theorem xlb_0_1085 : xcvb 0 xc_0_1085 = true := xcvb_drop 1 xlb_0_1082 rfl
set_option maxRecDepth 100000 in
theorem xlb_0_1098 : xcvb 0 xc_0_1098 = true := xcvb_drop 7 xlb_0_1085 rfl
set_option maxRecDepth 100000 in
theorem xlb_0_1111 : xcvb 0 xc_0_1111 = true := xcvb_drop 7 xlb_0_1098 rfl
set_option maxRecDepth 100000 in
theorem xlb_0_1147 : xcvb 0 xc_0_1147 = true := xcvb_drop 23 xlb_0_1111 rfl
set_option maxRecDepth 100000 in
theorem xlb_0_1164 : xcvb 0 xc_0_1164 = true := xcvb_drop 11 xlb_0_1147 rfl
set_option maxRecDepth 100000 in
theorem xlb_0_1167 : xcvb 0 xc_0_1167 = true := xcvb_drop 1 xlb_0_1164 rfl
set_option maxRecDepth 100000 in
theorem xlb_0_1203 : xcvb 0 xc_0_1203 = true := xcvb_drop 23 xlb_0_1167 rfl
set_option maxRecDepth 100000 in
theorem xlb_0_1220 : xcvb 0 xc_0_1220 = true := xcvb_drop 11 xlb_0_1203 rfl
set_option maxRecDepth 100000 in
theorem xlb_0_1223 : xcvb 0 xc_0_1223 = true := xcvb_drop 1 xlb_0_1220 rfl
set_option maxRecDepth 100000 in
theorem xlb_0_1247 : xcvb 0 xc_0_1247 = true := xcvb_drop 13 xlb_0_1223 rfl
set_option maxRecDepth 100000 in
theorem xlb_0_1264 : xcvb 0 xc_0_1264 = true := xcvb_drop 11 xlb_0_1247 rfl
set_option maxRecDepth 100000 in
theorem xlb_0_1267 : xcvb 0 xc_0_1267 = true := xcvb_drop 1 xlb_0_1264 rfl
set_option maxRecDepth 100000 in
theorem xlb_0_1291 : xcvb 0 xc_0_1291 = true := xcvb_drop 13 xlb_0_1267 rfl
set_option maxRecDepth 100000 in
theorem xlb_0_1308 : xcvb 0 xc_0_1308 = true := xcvb_drop 11 xlb_0_1291 rfl
set_option maxRecDepth 100000 in
theorem xlb_0_1311 : xcvb 0 xc_0_1311 = true := xcvb_drop 1 xlb_0_1308 rfl
set_option maxRecDepth 100000 in
theorem xlb_0_1324 : xcvb 0 xc_0_1324 = true := xcvb_drop 7 xlb_0_1311 rfl
set_option maxRecDepth 100000 in
theorem xlb_0_1360 : xcvb 0 xc_0_1360 = true := xcvb_drop 23 xlb_0_1324 rfl
set_option maxRecDepth 100000 in
theorem xlb_0_1377 : xcvb 0 xc_0_1377 = true := xcvb_drop 9 xlb_0_1360 rfl
set_option maxRecDepth 100000 in
theorem xlb_0_1378 : xcvb 0 xc_0_1378 = true := xcvb_drop 1 xlb_0_1377 rfl
set_option maxRecDepth 100000 in
theorem xlb_0_1384 : xcvb 0 xc_0_1384 = true := xcvb_drop 4 xlb_0_1378 rfl
set_option maxRecDepth 100000 in
theorem xlb_0_1387 : xcvb 0 xc_0_1387 = true := xcvb_drop 1 xlb_0_1384 rfl
set_option maxRecDepth 100000 in
theorem xlb_0_1423 : xcvb 0 xc_0_1423 = true := xcvb_drop 23 xlb_0_1387 rfl
set_option maxRecDepth 100000 in
theorem xlb_0_1440 : xcvb 0 xc_0_1440 = true := xcvb_drop 11 xlb_0_1423 rfl
set_option maxRecDepth 100000 in
theorem xlb_0_1443 : xcvb 0 xc_0_1443 = true := xcvb_drop 1 xlb_0_1440 rfl
set_option maxRecDepth 100000 in
theorem xlb_0_1479 : xcvb 0 xc_0_1479 = true := xcvb_drop 23 xlb_0_1443 rfl
set_option maxRecDepth 100000 in
theorem xlb_0_1496 : xcvb 0 xc_0_1496 = true := xcvb_drop 11 xlb_0_1479 rfl
set_option maxRecDepth 100000 in
theorem xlb_0_1499 : xcvb 0 xc_0_1499 = true := xcvb_drop 1 xlb_0_1496 rfl
set_option maxRecDepth 100000 in
theorem xlb_0_1535 : xcvb 0 xc_0_1535 = true := xcvb_drop 23 xlb_0_1499 rfl
set_option maxRecDepth 100000 in
theorem xlb_0_1552 : xcvb 0 xc_0_1552 = true := xcvb_drop 11 xlb_0_1535 rfl
set_option maxRecDepth 100000 in
theorem xlb_0_1555 : xcvb 0 xc_0_1555 = true := xcvb_drop 1 xlb_0_1552 rfl
set_option maxRecDepth 100000 in
theorem xlb_0_1603 : xcvb 0 xc_0_1603 = true := xcvb_drop 33 xlb_0_1555 rfl
set_option maxRecDepth 100000 in
theorem xlb_0_1620 : xcvb 0 xc_0_1620 = true := xcvb_drop 11 xlb_0_1603 rfl
set_option maxRecDepth 100000 in
theorem xlb_0_1623 : xcvb 0 xc_0_1623 = true := xcvb_drop 1 xlb_0_1620 rfl
set_option maxRecDepth 100000 in
theorem xlb_0_1671 : xcvb 0 xc_0_1671 = true := xcvb_drop 33 xlb_0_1623 rfl
set_option maxRecDepth 100000 in
theorem xlb_0_1688 : xcvb 0 xc_0_1688 = true := xcvb_drop 11 xlb_0_1671 rfl
set_option maxRecDepth 100000 in
theorem xlb_0_1691 : xcvb 0 xc_0_1691 = true := xcvb_drop 1 xlb_0_1688 rfl
set_option maxRecDepth 100000 in
theorem xlb_0_1739 : xcvb 0 xc_0_1739 = true := xcvb_drop 33 xlb_0_1691 rfl
set_option maxRecDepth 100000 in
theorem xlb_0_1756 : xcvb 0 xc_0_1756 = true := xcvb_drop 11 xlb_0_1739 rfl
set_option maxRecDepth 100000 in
theorem xlb_0_1759 : xcvb 0 xc_0_1759 = true := xcvb_drop 1 xlb_0_1756 rfl
set_option maxRecDepth 100000 in
theorem xlb_0_1795 : xcvb 0 xc_0_1795 = true := xcvb_drop 23 xlb_0_1759 rfl
set_option maxRecDepth 100000 in
theorem xlb_0_1812 : xcvb 0 xc_0_1812 = true := xcvb_drop 11 xlb_0_1795 rfl
set_option maxRecDepth 100000 in
theorem xlb_0_1815 : xcvb 0 xc_0_1815 = true := xcvb_drop 1 xlb_0_1812 rfl
set_option maxRecDepth 100000 in
theorem xlb_0_1863 : xcvb 0 xc_0_1863 = true := xcvb_drop 33 xlb_0_1815 rfl
set_option maxRecDepth 100000 in
theorem xlb_0_1880 : xcvb 0 xc_0_1880 = true := xcvb_drop 11 xlb_0_1863 rfl
set_option maxRecDepth 100000 in
theorem xlb_0_1883 : xcvb 0 xc_0_1883 = true := xcvb_drop 1 xlb_0_1880 rfl
set_option maxRecDepth 100000 in
theorem xlb_0_1931 : xcvb 0 xc_0_1931 = true := xcvb_drop 33 xlb_0_1883 rfl
set_option maxRecDepth 100000 in
theorem xlb_0_1948 : xcvb 0 xc_0_1948 = true := xcvb_drop 9 xlb_0_1931 rfl
set_option maxRecDepth 100000 in
theorem xlb_0_1949 : xcvb 0 xc_0_1949 = true := xcvb_drop 1 xlb_0_1948 rfl
set_option maxRecDepth 100000 in
theorem xlb_0_1955 : xcvb 0 xc_0_1955 = true := xcvb_drop 4 xlb_0_1949 rfl
set_option maxRecDepth 100000 in
theorem xlb_0_1958 : xcvb 0 xc_0_1958 = true := xcvb_drop 1 xlb_0_1955 rfl
set_option maxRecDepth 100000 in
theorem xlb_0_1994 : xcvb 0 xc_0_1994 = true := xcvb_drop 23 xlb_0_1958 rfl
set_option maxRecDepth 100000 in
theorem xlb_0_2011 : xcvb 0 xc_0_2011 = true := xcvb_drop 11 xlb_0_1994 rfl
set_option maxRecDepth 100000 in
theorem xlb_0_2014 : xcvb 0 xc_0_2014 = true := xcvb_drop 1 xlb_0_2011 rfl
set_option maxRecDepth 100000 in
theorem xlb_0_2050 : xcvb 0 xc_0_2050 = true := xcvb_drop 23 xlb_0_2014 rfl
set_option maxRecDepth 100000 in
theorem xlb_0_2067 : xcvb 0 xc_0_2067 = true := xcvb_drop 11 xlb_0_2050 rfl
set_option maxRecDepth 100000 in
theorem xlb_0_2070 : xcvb 0 xc_0_2070 = true := xcvb_drop 1 xlb_0_2067 rfl
set_option maxRecDepth 100000 in
theorem xlb_0_2106 : xcvb 0 xc_0_2106 = true := xcvb_drop 23 xlb_0_2070 rfl
set_option maxRecDepth 100000 in
theorem xlb_0_2123 : xcvb 0 xc_0_2123 = true := xcvb_drop 9 xlb_0_2106 rfl
set_option maxRecDepth 100000 in
theorem xlb_0_2124 : xcvb 0 xc_0_2124 = true := xcvb_drop 1 xlb_0_2123 rfl
set_option maxRecDepth 100000 in
theorem xlb_0_2130 : xcvb 0 xc_0_2130 = true := xcvb_drop 4 xlb_0_2124 rfl
set_option maxRecDepth 100000 in
theorem xlb_0_2133 : xcvb 0 xc_0_2133 = true := xcvb_drop 1 xlb_0_2130 rfl
set_option maxRecDepth 100000 in
theorem xlb_0_2146 : xcvb 0 xc_0_2146 = true := xcvb_drop 7 xlb_0_2133 rfl
set_option maxRecDepth 100000 in
theorem xlb_0_2182 : xcvb 0 xc_0_2182 = true := xcvb_drop 23 xlb_0_2146 rfl
set_option maxRecDepth 100000 in
theorem xlb_0_2199 : xcvb 0 xc_0_2199 = true := xcvb_drop 11 xlb_0_2182 rfl
set_option maxRecDepth 100000 in
theorem xlb_0_2202 : xcvb 0 xc_0_2202 = true := xcvb_drop 1 xlb_0_2199 rfl
set_option maxRecDepth 100000 in
theorem xlb_0_2238 : xcvb 0 xc_0_2238 = true := xcvb_drop 23 xlb_0_2202 rfl
set_option maxRecDepth 100000 in
theorem xlb_0_2255 : xcvb 0 xc_0_2255 = true := xcvb_drop 11 xlb_0_2238 rfl
set_option maxRecDepth 100000 in
theorem xlb_0_2258 : xcvb 0 xc_0_2258 = true := xcvb_drop 1 xlb_0_2255 rfl
set_option maxRecDepth 100000 in
theorem xlb_0_2306 : xcvb 0 xc_0_2306 = true := xcvb_drop 33 xlb_0_2258 rfl
set_option maxRecDepth 100000 in
theorem xlb_0_2323 : xcvb 0 xc_0_2323 = true := xcvb_drop 9 xlb_0_2306 rfl
set_option maxRecDepth 100000 in
theorem xlb_0_2324 : xcvb 0 xc_0_2324 = true := xcvb_drop 1 xlb_0_2323 rfl
set_option maxRecDepth 100000 in
theorem xlb_0_2330 : xcvb 0 xc_0_2330 = true := xcvb_drop 4 xlb_0_2324 rfl
set_option maxRecDepth 100000 in
theorem xlb_0_2333 : xcvb 0 xc_0_2333 = true := xcvb_drop 1 xlb_0_2330 rfl
set_option maxRecDepth 100000 in
theorem xlb_0_2369 : xcvb 0 xc_0_2369 = true := xcvb_drop 18 xlb_0_2333 rfl
set_option maxRecDepth 100000 in
theorem xlb_0_2371 : xcvb 0 xc_0_2371 = true := xcvb_drop 2 xlb_0_2369 rfl
set_option maxRecDepth 100000 in
theorem xlb_0_2374 : xcvb 0 xc_0_2374 = true := xcvb_drop 1 xlb_0_2371 rfl
set_option maxRecDepth 100000 in
theorem xlb_0_2410 : xcvb 0 xc_0_2410 = true := xcvb_drop 23 xlb_0_2374 rfl
set_option maxRecDepth 100000 in
theorem xlb_0_2427 : xcvb 0 xc_0_2427 = true := xcvb_drop 11 xlb_0_2410 rfl
set_option maxRecDepth 100000 in
theorem xlb_0_2430 : xcvb 0 xc_0_2430 = true := xcvb_drop 1 xlb_0_2427 rfl
set_option maxRecDepth 100000 in
theorem xlb_0_2466 : xcvb 0 xc_0_2466 = true := xcvb_drop 23 xlb_0_2430 rfl
set_option maxRecDepth 100000 in
theorem xlb_0_2483 : xcvb 0 xc_0_2483 = true := xcvb_drop 11 xlb_0_2466 rfl
set_option maxRecDepth 100000 in
theorem xlb_0_2486 : xcvb 0 xc_0_2486 = true := xcvb_drop 1 xlb_0_2483 rfl
set_option maxRecDepth 100000 in
theorem xlb_0_2522 : xcvb 0 xc_0_2522 = true := xcvb_drop 23 xlb_0_2486 rfl
set_option maxRecDepth 100000 in
theorem xlb_0_2539 : xcvb 0 xc_0_2539 = true := xcvb_drop 11 xlb_0_2522 rfl
set_option maxRecDepth 100000 in
theorem xlb_0_2542 : xcvb 0 xc_0_2542 = true := xcvb_drop 1 xlb_0_2539 rfl
set_option maxRecDepth 100000 in
theorem xlb_0_2555 : xcvb 0 xc_0_2555 = true := xcvb_drop 7 xlb_0_2542 rfl
set_option maxRecDepth 100000 in
theorem xlb_0_2591 : xcvb 0 xc_0_2591 = true := xcvb_drop 23 xlb_0_2555 rfl
set_option maxRecDepth 100000 in
theorem xlb_0_2608 : xcvb 0 xc_0_2608 = true := xcvb_drop 11 xlb_0_2591 rfl
set_option maxRecDepth 100000 in
theorem xlb_0_2611 : xcvb 0 xc_0_2611 = true := xcvb_drop 1 xlb_0_2608 rfl
set_option maxRecDepth 100000 in
theorem xlb_0_2625 : xcvb 0 xc_0_2625 = true := xcvb_drop 8 xlb_0_2611 rfl
set_option maxRecDepth 100000 in
theorem xlb_0_2631 : xcvb 0 xc_0_2631 = true := xcvb_drop 2 xlb_0_2625 rfl
set_option maxRecDepth 100000 in
theorem xlj_0 : xjvb 0 xj_0 = true :=  xjvb_br ( xjvb_br ( xjvb_br ( xjvb_br ( xjvb_br ( xjvb_br ( xjvb_br (xjvb_lf xlb_0_23) (xjvb_lf xlb_0_276)) ( xjvb_br (xjvb_lf xlb_0_360) (xjvb_lf xlb_0_377))) ( xjvb_br ( xjvb_br (xjvb_lf xlb_0_380) (xjvb_lf xlb_0_416)) ( xjvb_br (xjvb_lf xlb_0_433) (xjvb_lf xlb_0_436)))) ( xjvb_br ( xjvb_br ( xjvb_br (xjvb_lf xlb_0_449) (xjvb_lf xlb_0_462)) ( xjvb_br (xjvb_lf xlb_0_498) (xjvb_lf xlb_0_515))) ( xjvb_br ( xjvb_br (xjvb_lf xlb_0_518) (xjvb_lf xlb_0_554)) ( xjvb_br (xjvb_lf xlb_0_571) ( xjvb_br (xjvb_lf xlb_0_574) (xjvb_lf xlb_0_622)))))) ( xjvb_br ( xjvb_br ( xjvb_br ( xjvb_br (xjvb_lf xlb_0_639) (xjvb_lf xlb_0_642)) ( xjvb_br (xjvb_lf xlb_0_655) (xjvb_lf xlb_0_668))) ( xjvb_br ( xjvb_br (xjvb_lf xlb_0_681) (xjvb_lf xlb_0_694)) ( xjvb_br (xjvb_lf xlb_0_707) (xjvb_lf xlb_0_720)))) ( xjvb_br ( xjvb_br ( xjvb_br (xjvb_lf xlb_0_733) (xjvb_lf xlb_0_746)) ( xjvb_br (xjvb_lf xlb_0_759) (xjvb_lf xlb_0_772))) ( xjvb_br ( xjvb_br (xjvb_lf xlb_0_785) (xjvb_lf xlb_0_821)) ( xjvb_br (xjvb_lf xlb_0_838) ( xjvb_br (xjvb_lf xlb_0_841) (xjvb_lf xlb_0_877))))))) ( xjvb_br ( xjvb_br ( xjvb_br ( xjvb_br ( xjvb_br (xjvb_lf xlb_0_894) (xjvb_lf xlb_0_897)) ( xjvb_br (xjvb_lf xlb_0_933) (xjvb_lf xlb_0_950))) ( xjvb_br ( xjvb_br (xjvb_lf xlb_0_951) (xjvb_lf xlb_0_957)) ( xjvb_br (xjvb_lf xlb_0_960) (xjvb_lf xlb_0_973)))) ( xjvb_br ( xjvb_br ( xjvb_br (xjvb_lf xlb_0_1009) (xjvb_lf xlb_0_1026)) ( xjvb_br (xjvb_lf xlb_0_1029) (xjvb_lf xlb_0_1065))) ( xjvb_br ( xjvb_br (xjvb_lf xlb_0_1082) (xjvb_lf xlb_0_1085)) ( xjvb_br (xjvb_lf xlb_0_1098) ( xjvb_br (xjvb_lf xlb_0_1111) (xjvb_lf xlb_0_1147)))))) ( xjvb_br ( xjvb_br ( xjvb_br ( xjvb_br (xjvb_lf xlb_0_1164) (xjvb_lf xlb_0_1167)) ( xjvb_br (xjvb_lf xlb_0_1203) (xjvb_lf xlb_0_1220))) ( xjvb_br ( xjvb_br (xjvb_lf xlb_0_1223) (xjvb_lf xlb_0_1247)) ( xjvb_br (xjvb_lf xlb_0_1264) ( xjvb_br (xjvb_lf xlb_0_1267) (xjvb_lf xlb_0_1291))))) ( xjvb_br ( xjvb_br ( xjvb_br (xjvb_lf xlb_0_1308) (xjvb_lf xlb_0_1311)) ( xjvb_br (xjvb_lf xlb_0_1324) (xjvb_lf xlb_0_1360))) ( xjvb_br ( xjvb_br (xjvb_lf xlb_0_1377) (xjvb_lf xlb_0_1378)) ( xjvb_br (xjvb_lf xlb_0_1384) ( xjvb_br (xjvb_lf xlb_0_1387) (xjvb_lf xlb_0_1423)))))))) ( xjvb_br ( xjvb_br ( xjvb_br ( xjvb_br ( xjvb_br ( xjvb_br (xjvb_lf xlb_0_1440) (xjvb_lf xlb_0_1443)) ( xjvb_br (xjvb_lf xlb_0_1479) (xjvb_lf xlb_0_1496))) ( xjvb_br ( xjvb_br (xjvb_lf xlb_0_1499) (xjvb_lf xlb_0_1535)) ( xjvb_br (xjvb_lf xlb_0_1552) (xjvb_lf xlb_0_1555)))) ( xjvb_br ( xjvb_br ( xjvb_br (xjvb_lf xlb_0_1603) (xjvb_lf xlb_0_1620)) ( xjvb_br (xjvb_lf xlb_0_1623) (xjvb_lf xlb_0_1671))) ( xjvb_br ( xjvb_br (xjvb_lf xlb_0_1688) (xjvb_lf xlb_0_1691)) ( xjvb_br (xjvb_lf xlb_0_1739) ( xjvb_br (xjvb_lf xlb_0_1756) (xjvb_lf xlb_0_1759)))))) ( xjvb_br ( xjvb_br ( xjvb_br ( xjvb_br (xjvb_lf xlb_0_1795) (xjvb_lf xlb_0_1812)) ( xjvb_br (xjvb_lf xlb_0_1815) (xjvb_lf xlb_0_1863))) ( xjvb_br ( xjvb_br (xjvb_lf xlb_0_1880) (xjvb_lf xlb_0_1883)) ( xjvb_br (xjvb_lf xlb_0_1931) (xjvb_lf xlb_0_1948)))) ( xjvb_br ( xjvb_br ( xjvb_br (xjvb_lf xlb_0_1949) (xjvb_lf xlb_0_1955)) ( xjvb_br (xjvb_lf xlb_0_1958) (xjvb_lf xlb_0_1994))) ( xjvb_br ( xjvb_br (xjvb_lf xlb_0_2011) (xjvb_lf xlb_0_2014)) ( xjvb_br (xjvb_lf xlb_0_2050) ( xjvb_br (xjvb_lf xlb_0_2067) (xjvb_lf xlb_0_2070))))))) ( xjvb_br ( xjvb_br ( xjvb_br ( xjvb_br ( xjvb_br (xjvb_lf xlb_0_2106) (xjvb_lf xlb_0_2123)) ( xjvb_br (xjvb_lf xlb_0_2124) (xjvb_lf xlb_0_2130))) ( xjvb_br ( xjvb_br (xjvb_lf xlb_0_2133) (xjvb_lf xlb_0_2146)) ( xjvb_br (xjvb_lf xlb_0_2182) (xjvb_lf xlb_0_2199)))) ( xjvb_br ( xjvb_br ( xjvb_br (xjvb_lf xlb_0_2202) (xjvb_lf xlb_0_2238)) ( xjvb_br (xjvb_lf xlb_0_2255) (xjvb_lf xlb_0_2258))) ( xjvb_br ( xjvb_br (xjvb_lf xlb_0_2306) (xjvb_lf xlb_0_2323)) ( xjvb_br (xjvb_lf xlb_0_2324) ( xjvb_br (xjvb_lf xlb_0_2330) (xjvb_lf xlb_0_2333)))))) ( xjvb_br ( xjvb_br ( xjvb_br ( xjvb_br (xjvb_lf xlb_0_2369) (xjvb_lf xlb_0_2371)) ( xjvb_br (xjvb_lf xlb_0_2374) (xjvb_lf xlb_0_2410))) ( xjvb_br ( xjvb_br (xjvb_lf xlb_0_2427) (xjvb_lf xlb_0_2430)) ( xjvb_br (xjvb_lf xlb_0_2466) ( xjvb_br (xjvb_lf xlb_0_2483) (xjvb_lf xlb_0_2486))))) ( xjvb_br ( xjvb_br ( xjvb_br (xjvb_lf xlb_0_2522) (xjvb_lf xlb_0_2539)) ( xjvb_br (xjvb_lf xlb_0_2542) (xjvb_lf xlb_0_2555))) ( xjvb_br ( xjvb_br (xjvb_lf xlb_0_2591) (xjvb_lf xlb_0_2608)) ( xjvb_br (xjvb_lf xlb_0_2611) ( xjvb_br (xjvb_lf xlb_0_2625) (xjvb_lf xlb_0_2631))))))))
set_option maxRecDepth 100000 in
theorem xlc_85_0 : xcvb 85 xc_85_0 = true := xcvn_ok xl_85_0 (show xcvb 85 (List.drop 53 xc_85_0) = true from by rw [show List.drop 53 xc_85_0 = [] from rfl]; rfl)
theorem xlb_85_0 : xcvb 85 xc_85_0 = true := xlc_85_0
set_option maxRecDepth 100000 in
theorem xlb_85_21 : xcvb 85 xc_85_21 = true := xcvb_drop 11 xlb_85_0 rfl
set_option maxRecDepth 100000 in
theorem xlb_85_27 : xcvb 85 xc_85_27 = true := xcvb_drop 4 xlb_85_21 rfl
set_option maxRecDepth 100000 in
theorem xlb_85_43 : xcvb 85 xc_85_43 = true := xcvb_drop 8 xlb_85_27 rfl
set_option maxRecDepth 100000 in
theorem xlb_85_49 : xcvb 85 xc_85_49 = true := xcvb_drop 4 xlb_85_43 rfl
set_option maxRecDepth 100000 in
theorem xlb_85_59 : xcvb 85 xc_85_59 = true := xcvb_drop 6 xlb_85_49 rfl
set_option maxRecDepth 100000 in
theorem xlb_85_82 : xcvb 85 xc_85_82 = true := xcvb_drop 13 xlb_85_59 rfl
set_option maxRecDepth 100000 in
theorem xlb_85_91 : xcvb 85 xc_85_91 = true := xcvb_drop 5 xlb_85_82 rfl
set_option maxRecDepth 100000 in
theorem xlb_85_92 : xcvb 85 xc_85_92 = true := xcvb_drop 1 xlb_85_91 rfl
set_option maxRecDepth 100000 in
theorem xlj_85 : xjvb 85 xj_85 = true :=  xjvb_br ( xjvb_br ( xjvb_br (xjvb_lf xlb_85_21) (xjvb_lf xlb_85_27)) ( xjvb_br (xjvb_lf xlb_85_43) (xjvb_lf xlb_85_49))) ( xjvb_br ( xjvb_br (xjvb_lf xlb_85_59) (xjvb_lf xlb_85_82)) ( xjvb_br (xjvb_lf xlb_85_91) (xjvb_lf xlb_85_92)))
set_option maxRecDepth 100000 in
theorem xlc_112_0 : xcvb 112 xc_112_0 = true := xcvn_ok xl_112_0 (show xcvb 112 (List.drop 105 xc_112_0) = true from by rw [show List.drop 105 xc_112_0 = [] from rfl]; rfl)
theorem xlb_112_0 : xcvb 112 xc_112_0 = true := xlc_112_0
set_option maxRecDepth 100000 in
theorem xlb_112_70 : xcvb 112 xc_112_70 = true := xcvb_drop 38 xlb_112_0 rfl
set_option maxRecDepth 100000 in
theorem xlb_112_71 : xcvb 112 xc_112_71 = true := xcvb_drop 1 xlb_112_70 rfl
set_option maxRecDepth 100000 in
theorem xlb_112_155 : xcvb 112 xc_112_155 = true := xcvb_drop 47 xlb_112_71 rfl
set_option maxRecDepth 100000 in
theorem xlb_112_186 : xcvb 112 xc_112_186 = true := xcvb_drop 15 xlb_112_155 rfl
set_option maxRecDepth 100000 in
theorem xlb_112_192 : xcvb 112 xc_112_192 = true := xcvb_drop 2 xlb_112_186 rfl
set_option maxRecDepth 100000 in
theorem xlj_112 : xjvb 112 xj_112 = true :=  xjvb_br ( xjvb_br (xjvb_lf xlb_112_70) (xjvb_lf xlb_112_71)) ( xjvb_br (xjvb_lf xlb_112_155) ( xjvb_br (xjvb_lf xlb_112_186) (xjvb_lf xlb_112_192)))
set_option maxRecDepth 100000 in
theorem xlc_113_2 : xcvb 113 xc_113_433 = true := xcvn_ok xl_113_2 (show xcvb 113 (List.drop 4 xc_113_433) = true from by rw [show List.drop 4 xc_113_433 = [] from rfl]; rfl)
set_option maxRecDepth 100000 in
theorem xlc_113_1 : xcvb 113 xc_113_196 = true := xcvn_ok xl_113_1 (show xcvb 113 (List.drop 125 xc_113_196) = true from by rw [show List.drop 125 xc_113_196 = xc_113_433 from rfl]; exact xlc_113_2)
set_option maxRecDepth 100000 in
theorem xlc_113_0 : xcvb 113 xc_113_0 = true := xcvn_ok xl_113_0 (show xcvb 113 (List.drop 110 xc_113_0) = true from by rw [show List.drop 110 xc_113_0 = xc_113_196 from rfl]; exact xlc_113_1)
theorem xlb_113_0 : xcvb 113 xc_113_0 = true := xlc_113_0
set_option maxRecDepth 100000 in
theorem xlb_113_86 : xcvb 113 xc_113_86 = true := xcvb_drop 49 xlb_113_0 rfl
set_option maxRecDepth 100000 in
theorem xlb_113_87 : xcvb 113 xc_113_87 = true := xcvb_drop 1 xlb_113_86 rfl
set_option maxRecDepth 100000 in
theorem xlb_113_196 : xcvb 113 xc_113_196 = true := xcvb_drop 60 xlb_113_87 rfl
set_option maxRecDepth 100000 in
theorem xlb_113_226 : xcvb 113 xc_113_226 = true := xcvb_drop 16 xlb_113_196 rfl
set_option maxRecDepth 100000 in
theorem xlb_113_229 : xcvb 113 xc_113_229 = true := xcvb_drop 2 xlb_113_226 rfl
set_option maxRecDepth 100000 in
theorem xlb_113_284 : xcvb 113 xc_113_284 = true := xcvb_drop 28 xlb_113_229 rfl
set_option maxRecDepth 100000 in
theorem xlb_113_287 : xcvb 113 xc_113_287 = true := xcvb_drop 2 xlb_113_284 rfl
set_option maxRecDepth 100000 in
theorem xlb_113_363 : xcvb 113 xc_113_363 = true := xcvb_drop 40 xlb_113_287 rfl
set_option maxRecDepth 100000 in
theorem xlb_113_402 : xcvb 113 xc_113_402 = true := xcvb_drop 21 xlb_113_363 rfl
set_option maxRecDepth 100000 in
theorem xlb_113_405 : xcvb 113 xc_113_405 = true := xcvb_drop 2 xlb_113_402 rfl
set_option maxRecDepth 100000 in
theorem xlb_113_433 : xcvb 113 xc_113_433 = true := xcvb_drop 14 xlb_113_405 rfl
set_option maxRecDepth 100000 in
theorem xlb_113_439 : xcvb 113 xc_113_439 = true := xcvb_drop 2 xlb_113_433 rfl
set_option maxRecDepth 100000 in
theorem xlj_113 : xjvb 113 xj_113 = true :=  xjvb_br ( xjvb_br ( xjvb_br (xjvb_lf xlb_113_86) ( xjvb_br (xjvb_lf xlb_113_87) (xjvb_lf xlb_113_196))) ( xjvb_br (xjvb_lf xlb_113_226) ( xjvb_br (xjvb_lf xlb_113_229) (xjvb_lf xlb_113_284)))) ( xjvb_br ( xjvb_br (xjvb_lf xlb_113_287) ( xjvb_br (xjvb_lf xlb_113_363) (xjvb_lf xlb_113_402))) ( xjvb_br (xjvb_lf xlb_113_405) ( xjvb_br (xjvb_lf xlb_113_433) (xjvb_lf xlb_113_439))))
set_option maxRecDepth 100000 in
theorem xlc_119_1 : xcvb 119 xc_119_283 = true := xcvn_ok xl_119_1 (show xcvb 119 (List.drop 38 xc_119_283) = true from by rw [show List.drop 38 xc_119_283 = [] from rfl]; rfl)
set_option maxRecDepth 100000 in
theorem xlc_119_0 : xcvb 119 xc_119_0 = true := xcvn_ok xl_119_0 (show xcvb 119 (List.drop 141 xc_119_0) = true from by rw [show List.drop 141 xc_119_0 = xc_119_283 from rfl]; exact xlc_119_1)
theorem xlb_119_0 : xcvb 119 xc_119_0 = true := xlc_119_0
set_option maxRecDepth 100000 in
theorem xlb_119_283 : xcvb 119 xc_119_283 = true := xcvb_drop 141 xlb_119_0 rfl
set_option maxRecDepth 100000 in
theorem xlb_119_315 : xcvb 119 xc_119_315 = true := xcvb_drop 17 xlb_119_283 rfl
set_option maxRecDepth 100000 in
theorem xlj_119 : xjvb 119 xj_119 = true :=  xjvb_br (xjvb_lf xlb_119_283) (xjvb_lf xlb_119_315)
set_option maxRecDepth 100000 in
theorem xlc_140_0 : xcvb 140 xc_140_0 = true := xcvn_ok xl_140_0 (show xcvb 140 (List.drop 72 xc_140_0) = true from by rw [show List.drop 72 xc_140_0 = [] from rfl]; rfl)
theorem xlb_140_0 : xcvb 140 xc_140_0 = true := xlc_140_0
set_option maxRecDepth 100000 in
theorem xlb_140_47 : xcvb 140 xc_140_47 = true := xcvb_drop 22 xlb_140_0 rfl
set_option maxRecDepth 100000 in
theorem xlb_140_48 : xcvb 140 xc_140_48 = true := xcvb_drop 1 xlb_140_47 rfl
set_option maxRecDepth 100000 in
theorem xlb_140_70 : xcvb 140 xc_140_70 = true := xcvb_drop 12 xlb_140_48 rfl
set_option maxRecDepth 100000 in
theorem xlb_140_107 : xcvb 140 xc_140_107 = true := xcvb_drop 18 xlb_140_70 rfl
set_option maxRecDepth 100000 in
theorem xlb_140_113 : xcvb 140 xc_140_113 = true := xcvb_drop 2 xlb_140_107 rfl
set_option maxRecDepth 100000 in
theorem xlj_140 : xjvb 140 xj_140 = true :=  xjvb_br ( xjvb_br (xjvb_lf xlb_140_47) (xjvb_lf xlb_140_48)) ( xjvb_br (xjvb_lf xlb_140_70) ( xjvb_br (xjvb_lf xlb_140_107) (xjvb_lf xlb_140_113)))
set_option maxRecDepth 100000 in
theorem xlc_141_0 : xcvb 141 xc_141_0 = true := xcvn_ok xl_141_0 (show xcvb 141 (List.drop 89 xc_141_0) = true from by rw [show List.drop 89 xc_141_0 = [] from rfl]; rfl)
theorem xlb_141_0 : xcvb 141 xc_141_0 = true := xlc_141_0
set_option maxRecDepth 100000 in
theorem xlb_141_13 : xcvb 141 xc_141_13 = true := xcvb_drop 9 xlb_141_0 rfl
set_option maxRecDepth 100000 in
theorem xlb_141_61 : xcvb 141 xc_141_61 = true := xcvb_drop 28 xlb_141_13 rfl
set_option maxRecDepth 100000 in
theorem xlb_141_82 : xcvb 141 xc_141_82 = true := xcvb_drop 11 xlb_141_61 rfl
set_option maxRecDepth 100000 in
theorem xlb_141_115 : xcvb 141 xc_141_115 = true := xcvb_drop 20 xlb_141_82 rfl
set_option maxRecDepth 100000 in
theorem xlb_141_122 : xcvb 141 xc_141_122 = true := xcvb_drop 5 xlb_141_115 rfl
set_option maxRecDepth 100000 in
theorem xlb_141_128 : xcvb 141 xc_141_128 = true := xcvb_drop 2 xlb_141_122 rfl
set_option maxRecDepth 100000 in
theorem xlj_141 : xjvb 141 xj_141 = true :=  xjvb_br ( xjvb_br (xjvb_lf xlb_141_13) ( xjvb_br (xjvb_lf xlb_141_61) (xjvb_lf xlb_141_82))) ( xjvb_br (xjvb_lf xlb_141_115) ( xjvb_br (xjvb_lf xlb_141_122) (xjvb_lf xlb_141_128)))
set_option maxRecDepth 100000 in
theorem xlc_204_1 : xcvb 204 xc_204_248 = true := xcvn_ok xl_204_1 (show xcvb 204 (List.drop 10 xc_204_248) = true from by rw [show List.drop 10 xc_204_248 = [] from rfl]; rfl)
set_option maxRecDepth 100000 in
theorem xlc_204_0 : xcvb 204 xc_204_0 = true := xcvn_ok xl_204_0 (show xcvb 204 (List.drop 118 xc_204_0) = true from by rw [show List.drop 118 xc_204_0 = xc_204_248 from rfl]; exact xlc_204_1)
theorem xlb_204_0 : xcvb 204 xc_204_0 = true := xlc_204_0
set_option maxRecDepth 100000 in
theorem xlb_204_7 : xcvb 204 xc_204_7 = true := xcvb_drop 5 xlb_204_0 rfl
set_option maxRecDepth 100000 in
theorem xlb_204_35 : xcvb 204 xc_204_35 = true := xcvb_drop 13 xlb_204_7 rfl
set_option maxRecDepth 100000 in
theorem xlb_204_85 : xcvb 204 xc_204_85 = true := xcvb_drop 24 xlb_204_35 rfl
set_option maxRecDepth 100000 in
theorem xlb_204_101 : xcvb 204 xc_204_101 = true := xcvb_drop 7 xlb_204_85 rfl
set_option maxRecDepth 100000 in
theorem xlb_204_125 : xcvb 204 xc_204_125 = true := xcvb_drop 11 xlb_204_101 rfl
set_option maxRecDepth 100000 in
theorem xlb_204_147 : xcvb 204 xc_204_147 = true := xcvb_drop 11 xlb_204_125 rfl
set_option maxRecDepth 100000 in
theorem xlb_204_168 : xcvb 204 xc_204_168 = true := xcvb_drop 10 xlb_204_147 rfl
set_option maxRecDepth 100000 in
theorem xlb_204_169 : xcvb 204 xc_204_169 = true := xcvb_drop 1 xlb_204_168 rfl
set_option maxRecDepth 100000 in
theorem xlb_204_197 : xcvb 204 xc_204_197 = true := xcvb_drop 12 xlb_204_169 rfl
set_option maxRecDepth 100000 in
theorem xlb_204_202 : xcvb 204 xc_204_202 = true := xcvb_drop 3 xlb_204_197 rfl
set_option maxRecDepth 100000 in
theorem xlb_204_211 : xcvb 204 xc_204_211 = true := xcvb_drop 4 xlb_204_202 rfl
set_option maxRecDepth 100000 in
theorem xlb_204_224 : xcvb 204 xc_204_224 = true := xcvb_drop 6 xlb_204_211 rfl
set_option maxRecDepth 100000 in
theorem xlb_204_237 : xcvb 204 xc_204_237 = true := xcvb_drop 6 xlb_204_224 rfl
set_option maxRecDepth 100000 in
theorem xlb_204_248 : xcvb 204 xc_204_248 = true := xcvb_drop 5 xlb_204_237 rfl
set_option maxRecDepth 100000 in
theorem xlj_204 : xjvb 204 xj_204 = true :=  xjvb_br ( xjvb_br ( xjvb_br (xjvb_lf xlb_204_7) ( xjvb_br (xjvb_lf xlb_204_35) (xjvb_lf xlb_204_85))) ( xjvb_br ( xjvb_br (xjvb_lf xlb_204_101) (xjvb_lf xlb_204_125)) ( xjvb_br (xjvb_lf xlb_204_147) (xjvb_lf xlb_204_168)))) ( xjvb_br ( xjvb_br (xjvb_lf xlb_204_169) ( xjvb_br (xjvb_lf xlb_204_197) (xjvb_lf xlb_204_202))) ( xjvb_br ( xjvb_br (xjvb_lf xlb_204_211) (xjvb_lf xlb_204_224)) ( xjvb_br (xjvb_lf xlb_204_237) (xjvb_lf xlb_204_248))))
set_option maxRecDepth 100000 in
theorem xlc_222_0 : xcvb 222 xc_222_0 = true := xcvn_ok xl_222_0 (show xcvb 222 (List.drop 63 xc_222_0) = true from by rw [show List.drop 63 xc_222_0 = [] from rfl]; rfl)
theorem xlb_222_0 : xcvb 222 xc_222_0 = true := xlc_222_0
set_option maxRecDepth 100000 in
theorem xlb_222_11 : xcvb 222 xc_222_11 = true := xcvb_drop 9 xlb_222_0 rfl
set_option maxRecDepth 100000 in
theorem xlb_222_49 : xcvb 222 xc_222_49 = true := xcvb_drop 20 xlb_222_11 rfl
set_option maxRecDepth 100000 in
theorem xlb_222_69 : xcvb 222 xc_222_69 = true := xcvb_drop 10 xlb_222_49 rfl
set_option maxRecDepth 100000 in
theorem xlb_222_75 : xcvb 222 xc_222_75 = true := xcvb_drop 4 xlb_222_69 rfl
set_option maxRecDepth 100000 in
theorem xlb_222_105 : xcvb 222 xc_222_105 = true := xcvb_drop 15 xlb_222_75 rfl
set_option maxRecDepth 100000 in
theorem xlb_222_106 : xcvb 222 xc_222_106 = true := xcvb_drop 1 xlb_222_105 rfl
set_option maxRecDepth 100000 in
theorem xlb_222_113 : xcvb 222 xc_222_113 = true := xcvb_drop 3 xlb_222_106 rfl
set_option maxRecDepth 100000 in
theorem xlj_222 : xjvb 222 xj_222 = true :=  xjvb_br ( xjvb_br (xjvb_lf xlb_222_11) ( xjvb_br (xjvb_lf xlb_222_49) (xjvb_lf xlb_222_69))) ( xjvb_br ( xjvb_br (xjvb_lf xlb_222_75) (xjvb_lf xlb_222_105)) ( xjvb_br (xjvb_lf xlb_222_106) (xjvb_lf xlb_222_113)))
set_option maxRecDepth 100000 in
theorem xlc_226_0 : xcvb 226 xc_226_0 = true := xcvn_ok xl_226_0 (show xcvb 226 (List.drop 73 xc_226_0) = true from by rw [show List.drop 73 xc_226_0 = [] from rfl]; rfl)
theorem xlb_226_0 : xcvb 226 xc_226_0 = true := xlc_226_0
set_option maxRecDepth 100000 in
theorem xlb_226_2 : xcvb 226 xc_226_2 = true := xcvb_drop 2 xlb_226_0 rfl
set_option maxRecDepth 100000 in
theorem xlb_226_32 : xcvb 226 xc_226_32 = true := xcvb_drop 16 xlb_226_2 rfl
set_option maxRecDepth 100000 in
theorem xlb_226_56 : xcvb 226 xc_226_56 = true := xcvb_drop 12 xlb_226_32 rfl
set_option maxRecDepth 100000 in
theorem xlb_226_68 : xcvb 226 xc_226_68 = true := xcvb_drop 6 xlb_226_56 rfl
set_option maxRecDepth 100000 in
theorem xlb_226_85 : xcvb 226 xc_226_85 = true := xcvb_drop 9 xlb_226_68 rfl
set_option maxRecDepth 100000 in
theorem xlb_226_137 : xcvb 226 xc_226_137 = true := xcvb_drop 25 xlb_226_85 rfl
set_option maxRecDepth 100000 in
theorem xlb_226_143 : xcvb 226 xc_226_143 = true := xcvb_drop 2 xlb_226_137 rfl
set_option maxRecDepth 100000 in
theorem xlj_226 : xjvb 226 xj_226 = true :=  xjvb_br ( xjvb_br (xjvb_lf xlb_226_2) ( xjvb_br (xjvb_lf xlb_226_32) (xjvb_lf xlb_226_56))) ( xjvb_br ( xjvb_br (xjvb_lf xlb_226_68) (xjvb_lf xlb_226_85)) ( xjvb_br (xjvb_lf xlb_226_137) (xjvb_lf xlb_226_143)))
set_option maxRecDepth 100000 in
theorem xlc_237_0 : xcvb 237 xc_237_0 = true := xcvn_ok xl_237_0 (show xcvb 237 (List.drop 99 xc_237_0) = true from by rw [show List.drop 99 xc_237_0 = [] from rfl]; rfl)
theorem xlb_237_0 : xcvb 237 xc_237_0 = true := xlc_237_0
set_option maxRecDepth 100000 in
theorem xlb_237_39 : xcvb 237 xc_237_39 = true := xcvb_drop 19 xlb_237_0 rfl
set_option maxRecDepth 100000 in
theorem xlb_237_52 : xcvb 237 xc_237_52 = true := xcvb_drop 7 xlb_237_39 rfl
set_option maxRecDepth 100000 in
theorem xlb_237_77 : xcvb 237 xc_237_77 = true := xcvb_drop 13 xlb_237_52 rfl
set_option maxRecDepth 100000 in
theorem xlb_237_99 : xcvb 237 xc_237_99 = true := xcvb_drop 10 xlb_237_77 rfl
set_option maxRecDepth 100000 in
theorem xlb_237_138 : xcvb 237 xc_237_138 = true := xcvb_drop 21 xlb_237_99 rfl
set_option maxRecDepth 100000 in
theorem xlb_237_174 : xcvb 237 xc_237_174 = true := xcvb_drop 19 xlb_237_138 rfl
set_option maxRecDepth 100000 in
theorem xlb_237_188 : xcvb 237 xc_237_188 = true := xcvb_drop 6 xlb_237_174 rfl
set_option maxRecDepth 100000 in
theorem xlb_237_193 : xcvb 237 xc_237_193 = true := xcvb_drop 3 xlb_237_188 rfl
set_option maxRecDepth 100000 in
theorem xlj_237 : xjvb 237 xj_237 = true :=  xjvb_br ( xjvb_br ( xjvb_br (xjvb_lf xlb_237_0) (xjvb_lf xlb_237_39)) ( xjvb_br (xjvb_lf xlb_237_52) (xjvb_lf xlb_237_77))) ( xjvb_br ( xjvb_br (xjvb_lf xlb_237_99) (xjvb_lf xlb_237_138)) ( xjvb_br (xjvb_lf xlb_237_174) ( xjvb_br (xjvb_lf xlb_237_188) (xjvb_lf xlb_237_193))))
set_option maxRecDepth 100000 in
theorem xlc_239_0 : xcvb 239 xc_239_0 = true := xcvn_ok xl_239_0 (show xcvb 239 (List.drop 109 xc_239_0) = true from by rw [show List.drop 109 xc_239_0 = [] from rfl]; rfl)
theorem xlb_239_0 : xcvb 239 xc_239_0 = true := xlc_239_0
set_option maxRecDepth 100000 in
theorem xlb_239_2 : xcvb 239 xc_239_2 = true := xcvb_drop 2 xlb_239_0 rfl
set_option maxRecDepth 100000 in
theorem xlb_239_30 : xcvb 239 xc_239_30 = true := xcvb_drop 13 xlb_239_2 rfl
set_option maxRecDepth 100000 in
theorem xlb_239_58 : xcvb 239 xc_239_58 = true := xcvb_drop 17 xlb_239_30 rfl
set_option maxRecDepth 100000 in
theorem xlb_239_101 : xcvb 239 xc_239_101 = true := xcvb_drop 23 xlb_239_58 rfl
set_option maxRecDepth 100000 in
theorem xlb_239_121 : xcvb 239 xc_239_121 = true := xcvb_drop 11 xlb_239_101 rfl
set_option maxRecDepth 100000 in
theorem xlb_239_142 : xcvb 239 xc_239_142 = true := xcvb_drop 12 xlb_239_121 rfl
set_option maxRecDepth 100000 in
theorem xlb_239_148 : xcvb 239 xc_239_148 = true := xcvb_drop 2 xlb_239_142 rfl
set_option maxRecDepth 100000 in
theorem xlb_239_150 : xcvb 239 xc_239_150 = true := xcvb_drop 2 xlb_239_148 rfl
set_option maxRecDepth 100000 in
theorem xlb_239_194 : xcvb 239 xc_239_194 = true := xcvb_drop 24 xlb_239_150 rfl
set_option maxRecDepth 100000 in
theorem xlb_239_200 : xcvb 239 xc_239_200 = true := xcvb_drop 2 xlb_239_194 rfl
set_option maxRecDepth 100000 in
theorem xlj_239 : xjvb 239 xj_239 = true :=  xjvb_br ( xjvb_br ( xjvb_br (xjvb_lf xlb_239_2) (xjvb_lf xlb_239_30)) ( xjvb_br (xjvb_lf xlb_239_58) ( xjvb_br (xjvb_lf xlb_239_101) (xjvb_lf xlb_239_121)))) ( xjvb_br ( xjvb_br (xjvb_lf xlb_239_142) (xjvb_lf xlb_239_148)) ( xjvb_br (xjvb_lf xlb_239_150) ( xjvb_br (xjvb_lf xlb_239_194) (xjvb_lf xlb_239_200))))
set_option maxRecDepth 100000 in
theorem xlc_243_1 : xcvb 243 xc_243_239 = true := xcvn_ok xl_243_1 (show xcvb 243 (List.drop 62 xc_243_239) = true from by rw [show List.drop 62 xc_243_239 = [] from rfl]; rfl)
set_option maxRecDepth 100000 in
theorem xlc_243_0 : xcvb 243 xc_243_0 = true := xcvn_ok xl_243_0 (show xcvb 243 (List.drop 114 xc_243_0) = true from by rw [show List.drop 114 xc_243_0 = xc_243_239 from rfl]; exact xlc_243_1)
theorem xlb_243_0 : xcvb 243 xc_243_0 = true := xlc_243_0
set_option maxRecDepth 100000 in
theorem xlb_243_100 : xcvb 243 xc_243_100 = true := xcvb_drop 22 xlb_243_0 rfl
set_option maxRecDepth 100000 in
theorem xlb_243_120 : xcvb 243 xc_243_120 = true := xcvb_drop 13 xlb_243_100 rfl
set_option maxRecDepth 100000 in
theorem xlb_243_154 : xcvb 243 xc_243_154 = true := xcvb_drop 27 xlb_243_120 rfl
set_option maxRecDepth 100000 in
theorem xlb_243_171 : xcvb 243 xc_243_171 = true := xcvb_drop 10 xlb_243_154 rfl
set_option maxRecDepth 100000 in
theorem xlb_243_182 : xcvb 243 xc_243_182 = true := xcvb_drop 6 xlb_243_171 rfl
set_option maxRecDepth 100000 in
theorem xlb_243_191 : xcvb 243 xc_243_191 = true := xcvb_drop 5 xlb_243_182 rfl
set_option maxRecDepth 100000 in
theorem xlb_243_200 : xcvb 243 xc_243_200 = true := xcvb_drop 5 xlb_243_191 rfl
set_option maxRecDepth 100000 in
theorem xlb_243_239 : xcvb 243 xc_243_239 = true := xcvb_drop 26 xlb_243_200 rfl
set_option maxRecDepth 100000 in
theorem xlb_243_264 : xcvb 243 xc_243_264 = true := xcvb_drop 14 xlb_243_239 rfl
set_option maxRecDepth 100000 in
theorem xlb_243_275 : xcvb 243 xc_243_275 = true := xcvb_drop 6 xlb_243_264 rfl
set_option maxRecDepth 100000 in
theorem xlb_243_300 : xcvb 243 xc_243_300 = true := xcvb_drop 15 xlb_243_275 rfl
set_option maxRecDepth 100000 in
theorem xlb_243_323 : xcvb 243 xc_243_323 = true := xcvb_drop 15 xlb_243_300 rfl
set_option maxRecDepth 100000 in
theorem xlb_243_339 : xcvb 243 xc_243_339 = true := xcvb_drop 11 xlb_243_323 rfl
set_option maxRecDepth 100000 in
theorem xlj_243 : xjvb 243 xj_243 = true :=  xjvb_br ( xjvb_br ( xjvb_br (xjvb_lf xlb_243_100) ( xjvb_br (xjvb_lf xlb_243_120) (xjvb_lf xlb_243_154))) ( xjvb_br (xjvb_lf xlb_243_171) ( xjvb_br (xjvb_lf xlb_243_182) (xjvb_lf xlb_243_191)))) ( xjvb_br ( xjvb_br (xjvb_lf xlb_243_200) ( xjvb_br (xjvb_lf xlb_243_239) (xjvb_lf xlb_243_264))) ( xjvb_br ( xjvb_br (xjvb_lf xlb_243_275) (xjvb_lf xlb_243_300)) ( xjvb_br (xjvb_lf xlb_243_323) (xjvb_lf xlb_243_339))))
set_option maxRecDepth 100000 in
theorem xlc_254_0 : xcvb 254 xc_254_0 = true := xcvn_ok xl_254_0 (show xcvb 254 (List.drop 79 xc_254_0) = true from by rw [show List.drop 79 xc_254_0 = [] from rfl]; rfl)
theorem xlb_254_0 : xcvb 254 xc_254_0 = true := xlc_254_0
set_option maxRecDepth 100000 in
theorem xlb_254_2 : xcvb 254 xc_254_2 = true := xcvb_drop 2 xlb_254_0 rfl
set_option maxRecDepth 100000 in
theorem xlb_254_77 : xcvb 254 xc_254_77 = true := xcvb_drop 40 xlb_254_2 rfl
set_option maxRecDepth 100000 in
theorem xlb_254_99 : xcvb 254 xc_254_99 = true := xcvb_drop 11 xlb_254_77 rfl
set_option maxRecDepth 100000 in
theorem xlb_254_136 : xcvb 254 xc_254_136 = true := xcvb_drop 21 xlb_254_99 rfl
set_option maxRecDepth 100000 in
theorem xlb_254_142 : xcvb 254 xc_254_142 = true := xcvb_drop 2 xlb_254_136 rfl
set_option maxRecDepth 100000 in
theorem xlj_254 : xjvb 254 xj_254 = true :=  xjvb_br ( xjvb_br (xjvb_lf xlb_254_2) (xjvb_lf xlb_254_77)) ( xjvb_br (xjvb_lf xlb_254_99) ( xjvb_br (xjvb_lf xlb_254_136) (xjvb_lf xlb_254_142)))
set_option maxRecDepth 100000 in
theorem xlc_291_0 : xcvb 291 xc_291_0 = true := xcvn_ok xl_291_0 (show xcvb 291 (List.drop 84 xc_291_0) = true from by rw [show List.drop 84 xc_291_0 = [] from rfl]; rfl)
theorem xlb_291_0 : xcvb 291 xc_291_0 = true := xlc_291_0
set_option maxRecDepth 100000 in
theorem xlb_291_24 : xcvb 291 xc_291_24 = true := xcvb_drop 16 xlb_291_0 rfl
set_option maxRecDepth 100000 in
theorem xlb_291_57 : xcvb 291 xc_291_57 = true := xcvb_drop 19 xlb_291_24 rfl
set_option maxRecDepth 100000 in
theorem xlb_291_59 : xcvb 291 xc_291_59 = true := xcvb_drop 2 xlb_291_57 rfl
set_option maxRecDepth 100000 in
theorem xlb_291_96 : xcvb 291 xc_291_96 = true := xcvb_drop 24 xlb_291_59 rfl
set_option maxRecDepth 100000 in
theorem xlb_291_124 : xcvb 291 xc_291_124 = true := xcvb_drop 20 xlb_291_96 rfl
set_option maxRecDepth 100000 in
theorem xlb_291_130 : xcvb 291 xc_291_130 = true := xcvb_drop 2 xlb_291_124 rfl
set_option maxRecDepth 100000 in
theorem xlj_291 : xjvb 291 xj_291 = true :=  xjvb_br ( xjvb_br (xjvb_lf xlb_291_24) ( xjvb_br (xjvb_lf xlb_291_57) (xjvb_lf xlb_291_59))) ( xjvb_br (xjvb_lf xlb_291_96) ( xjvb_br (xjvb_lf xlb_291_124) (xjvb_lf xlb_291_130)))
set_option maxRecDepth 100000 in
theorem xlc_320_0 : xcvb 320 xc_320_0 = true := xcvn_ok xl_320_0 (show xcvb 320 (List.drop 69 xc_320_0) = true from by rw [show List.drop 69 xc_320_0 = [] from rfl]; rfl)
theorem xlb_320_0 : xcvb 320 xc_320_0 = true := xlc_320_0
set_option maxRecDepth 100000 in
theorem xlb_320_60 : xcvb 320 xc_320_60 = true := xcvb_drop 2 xlb_320_0 rfl
set_option maxRecDepth 100000 in
theorem xlb_320_68 : xcvb 320 xc_320_68 = true := xcvb_drop 4 xlb_320_60 rfl
set_option maxRecDepth 100000 in
theorem xlb_320_84 : xcvb 320 xc_320_84 = true := xcvb_drop 8 xlb_320_68 rfl
set_option maxRecDepth 100000 in
theorem xlb_320_108 : xcvb 320 xc_320_108 = true := xcvb_drop 12 xlb_320_84 rfl
set_option maxRecDepth 100000 in
theorem xlb_320_109 : xcvb 320 xc_320_109 = true := xcvb_drop 1 xlb_320_108 rfl
set_option maxRecDepth 100000 in
theorem xlb_320_115 : xcvb 320 xc_320_115 = true := xcvb_drop 2 xlb_320_109 rfl
set_option maxRecDepth 100000 in
theorem xlb_320_140 : xcvb 320 xc_320_140 = true := xcvb_drop 13 xlb_320_115 rfl
set_option maxRecDepth 100000 in
theorem xlb_320_148 : xcvb 320 xc_320_148 = true := xcvb_drop 4 xlb_320_140 rfl
set_option maxRecDepth 100000 in
theorem xlb_320_155 : xcvb 320 xc_320_155 = true := xcvb_drop 3 xlb_320_148 rfl
set_option maxRecDepth 100000 in
theorem xlb_320_176 : xcvb 320 xc_320_176 = true := xcvb_drop 10 xlb_320_155 rfl
set_option maxRecDepth 100000 in
theorem xlb_320_194 : xcvb 320 xc_320_194 = true := xcvb_drop 9 xlb_320_176 rfl
set_option maxRecDepth 100000 in
theorem xlj_320 : xjvb 320 xj_320 = true :=  xjvb_br ( xjvb_br ( xjvb_br (xjvb_lf xlb_320_60) (xjvb_lf xlb_320_68)) ( xjvb_br (xjvb_lf xlb_320_84) ( xjvb_br (xjvb_lf xlb_320_108) (xjvb_lf xlb_320_109)))) ( xjvb_br ( xjvb_br (xjvb_lf xlb_320_115) ( xjvb_br (xjvb_lf xlb_320_140) (xjvb_lf xlb_320_148))) ( xjvb_br (xjvb_lf xlb_320_155) ( xjvb_br (xjvb_lf xlb_320_176) (xjvb_lf xlb_320_194))))
