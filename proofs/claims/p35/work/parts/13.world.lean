/-! The general world of the two objects: a state is what the cells of ints and the cells of longs hold; the shape stays. -/
noncomputable abbrev wS : Type := (Nat → Nat → Int32) × (Nat → Nat → Int64)
noncomputable def wkdT (k : Nat) : Nat := (bif Nat.blt k 86 then (bif Nat.blt k 43 then (bif Nat.blt k 21 then (bif Nat.blt k 10 then (bif Nat.blt k 5 then (bif Nat.blt k 2 then (bif Nat.blt k 1 then 10 else 8) else (bif Nat.blt k 3 then 21 else (bif Nat.blt k 4 then 9 else 20))) else (bif Nat.blt k 7 then 20 else (bif Nat.blt k 8 then 1 else (bif Nat.blt k 9 then 4 else 0)))) else (bif Nat.blt k 15 then (bif Nat.blt k 12 then 20 else (bif Nat.blt k 13 then 20 else (bif Nat.blt k 14 then 24 else 2))) else (bif Nat.blt k 18 then (bif Nat.blt k 16 then 0 else 20) else 20))) else (bif Nat.blt k 32 then (bif Nat.blt k 26 then (bif Nat.blt k 23 then 20 else (bif Nat.blt k 24 then 22 else 20)) else (bif Nat.blt k 29 then (bif Nat.blt k 27 then 25 else (bif Nat.blt k 28 then 22 else 5)) else 20)) else (bif Nat.blt k 37 then (bif Nat.blt k 34 then 20 else (bif Nat.blt k 35 then 20 else (bif Nat.blt k 36 then 7 else 20))) else (bif Nat.blt k 40 then (bif Nat.blt k 38 then 7 else 20) else (bif Nat.blt k 41 then 6 else 20))))) else (bif Nat.blt k 64 then (bif Nat.blt k 53 then (bif Nat.blt k 48 then (bif Nat.blt k 45 then (bif Nat.blt k 44 then 20 else 3) else 20) else (bif Nat.blt k 50 then 20 else 23)) else (bif Nat.blt k 58 then (bif Nat.blt k 55 then (bif Nat.blt k 54 then 20 else 3) else 20) else (bif Nat.blt k 61 then (bif Nat.blt k 59 then 20 else (bif Nat.blt k 60 then 20 else 23)) else (bif Nat.blt k 62 then 23 else (bif Nat.blt k 63 then 23 else 20))))) else (bif Nat.blt k 75 then (bif Nat.blt k 69 then (bif Nat.blt k 66 then (bif Nat.blt k 65 then 3 else 20) else 20) else (bif Nat.blt k 72 then (bif Nat.blt k 70 then 20 else 23) else (bif Nat.blt k 73 then 23 else (bif Nat.blt k 74 then 20 else 3)))) else (bif Nat.blt k 80 then 20 else (bif Nat.blt k 83 then 23 else (bif Nat.blt k 84 then 20 else (bif Nat.blt k 85 then 3 else 20))))))) else (bif Nat.blt k 129 then (bif Nat.blt k 107 then (bif Nat.blt k 96 then (bif Nat.blt k 91 then (bif Nat.blt k 88 then 20 else (bif Nat.blt k 89 then 20 else (bif Nat.blt k 90 then 20 else 23))) else (bif Nat.blt k 93 then 23 else (bif Nat.blt k 94 then 20 else (bif Nat.blt k 95 then 3 else 20)))) else (bif Nat.blt k 101 then (bif Nat.blt k 98 then 20 else (bif Nat.blt k 99 then 20 else (bif Nat.blt k 100 then 20 else 23))) else (bif Nat.blt k 104 then (bif Nat.blt k 102 then 23 else (bif Nat.blt k 103 then 23 else 20)) else (bif Nat.blt k 105 then 2 else (bif Nat.blt k 106 then 0 else 20))))) else (bif Nat.blt k 118 then (bif Nat.blt k 112 then 20 else (bif Nat.blt k 115 then (bif Nat.blt k 113 then 20 else (bif Nat.blt k 114 then 22 else 20)) else (bif Nat.blt k 116 then 20 else (bif Nat.blt k 117 then 2 else 0)))) else (bif Nat.blt k 123 then 20 else (bif Nat.blt k 126 then (bif Nat.blt k 124 then 20 else (bif Nat.blt k 125 then 20 else 22)) else (bif Nat.blt k 127 then 20 else (bif Nat.blt k 128 then 20 else 2)))))) else (bif Nat.blt k 150 then (bif Nat.blt k 139 then (bif Nat.blt k 134 then (bif Nat.blt k 131 then (bif Nat.blt k 130 then 0 else 20) else 20) else (bif Nat.blt k 136 then 20 else (bif Nat.blt k 137 then 20 else (bif Nat.blt k 138 then 22 else 20)))) else (bif Nat.blt k 144 then (bif Nat.blt k 141 then (bif Nat.blt k 140 then 20 else 2) else (bif Nat.blt k 142 then 0 else 20)) else (bif Nat.blt k 147 then 20 else (bif Nat.blt k 148 then 20 else (bif Nat.blt k 149 then 20 else 22))))) else (bif Nat.blt k 161 then (bif Nat.blt k 155 then (bif Nat.blt k 152 then 20 else (bif Nat.blt k 153 then 11 else (bif Nat.blt k 154 then 21 else 20))) else 20) else (bif Nat.blt k 166 then (bif Nat.blt k 163 then 23 else (bif Nat.blt k 164 then 20 else (bif Nat.blt k 165 then 23 else 22))) else (bif Nat.blt k 169 then 20 else (bif Nat.blt k 170 then 23 else (bif Nat.blt k 171 then 20 else 22))))))))
noncomputable def wkd (k : Nat) : Nat := bif Nat.blt k 172 then wkdT k else 99
noncomputable def wln (k : Nat) : Nat := (bif Nat.blt k 86 then (bif Nat.blt k 43 then (bif Nat.blt k 21 then (bif Nat.blt k 10 then (bif Nat.blt k 5 then (bif Nat.blt k 2 then 0 else (bif Nat.blt k 3 then 400 else (bif Nat.blt k 4 then 0 else 401))) else (bif Nat.blt k 7 then 401 else 0)) else (bif Nat.blt k 15 then (bif Nat.blt k 12 then (bif Nat.blt k 11 then 3 else 24) else (bif Nat.blt k 13 then 24 else (bif Nat.blt k 14 then 6 else 0))) else (bif Nat.blt k 18 then (bif Nat.blt k 16 then 0 else (bif Nat.blt k 17 then 3 else 24)) else (bif Nat.blt k 19 then 24 else 40)))) else (bif Nat.blt k 32 then (bif Nat.blt k 26 then (bif Nat.blt k 23 then 40 else (bif Nat.blt k 24 then 40 else 10)) else (bif Nat.blt k 29 then (bif Nat.blt k 27 then 4 else (bif Nat.blt k 28 then 4 else 0)) else 84)) else (bif Nat.blt k 37 then (bif Nat.blt k 34 then (bif Nat.blt k 33 then 24 else 512) else (bif Nat.blt k 35 then 512 else (bif Nat.blt k 36 then 0 else 24))) else (bif Nat.blt k 40 then (bif Nat.blt k 38 then 0 else (bif Nat.blt k 39 then 24 else 12)) else (bif Nat.blt k 41 then 0 else 84))))) else (bif Nat.blt k 64 then (bif Nat.blt k 53 then (bif Nat.blt k 48 then (bif Nat.blt k 45 then (bif Nat.blt k 44 then 256 else 0) else (bif Nat.blt k 46 then 400 else 12)) else (bif Nat.blt k 50 then 12 else (bif Nat.blt k 51 then 8 else (bif Nat.blt k 52 then 61 else 192)))) else (bif Nat.blt k 58 then (bif Nat.blt k 55 then (bif Nat.blt k 54 then 192 else 0) else (bif Nat.blt k 56 then 400 else 12)) else (bif Nat.blt k 61 then (bif Nat.blt k 59 then 12 else (bif Nat.blt k 60 then 12 else 8)) else (bif Nat.blt k 62 then 61 else 192)))) else (bif Nat.blt k 75 then (bif Nat.blt k 69 then (bif Nat.blt k 66 then (bif Nat.blt k 65 then 0 else 400) else 12) else (bif Nat.blt k 72 then (bif Nat.blt k 70 then 12 else (bif Nat.blt k 71 then 8 else 61)) else (bif Nat.blt k 73 then 192 else (bif Nat.blt k 74 then 192 else 0)))) else (bif Nat.blt k 80 then (bif Nat.blt k 77 then (bif Nat.blt k 76 then 400 else 12) else 12) else (bif Nat.blt k 83 then (bif Nat.blt k 81 then 8 else (bif Nat.blt k 82 then 61 else 192)) else (bif Nat.blt k 84 then 192 else (bif Nat.blt k 85 then 0 else 400))))))) else (bif Nat.blt k 129 then (bif Nat.blt k 107 then (bif Nat.blt k 96 then (bif Nat.blt k 91 then (bif Nat.blt k 88 then 12 else (bif Nat.blt k 89 then 12 else (bif Nat.blt k 90 then 12 else 8))) else (bif Nat.blt k 93 then (bif Nat.blt k 92 then 61 else 192) else (bif Nat.blt k 94 then 192 else (bif Nat.blt k 95 then 0 else 400)))) else (bif Nat.blt k 101 then (bif Nat.blt k 98 then 12 else (bif Nat.blt k 99 then 12 else (bif Nat.blt k 100 then 12 else 8))) else (bif Nat.blt k 104 then (bif Nat.blt k 102 then 61 else 192) else (bif Nat.blt k 105 then 0 else (bif Nat.blt k 106 then 0 else 3))))) else (bif Nat.blt k 118 then (bif Nat.blt k 112 then (bif Nat.blt k 109 then 24 else 40) else (bif Nat.blt k 115 then (bif Nat.blt k 113 then 40 else (bif Nat.blt k 114 then 40 else 10)) else (bif Nat.blt k 116 then 10 else 0))) else (bif Nat.blt k 123 then (bif Nat.blt k 120 then (bif Nat.blt k 119 then 3 else 24) else (bif Nat.blt k 121 then 24 else 40)) else (bif Nat.blt k 126 then 40 else (bif Nat.blt k 127 then 10 else (bif Nat.blt k 128 then 10 else 0)))))) else (bif Nat.blt k 150 then (bif Nat.blt k 139 then (bif Nat.blt k 134 then (bif Nat.blt k 131 then (bif Nat.blt k 130 then 0 else 3) else (bif Nat.blt k 132 then 24 else (bif Nat.blt k 133 then 24 else 40))) else (bif Nat.blt k 136 then 40 else (bif Nat.blt k 137 then 40 else (bif Nat.blt k 138 then 40 else 10)))) else (bif Nat.blt k 144 then (bif Nat.blt k 141 then (bif Nat.blt k 140 then 10 else 0) else (bif Nat.blt k 142 then 0 else (bif Nat.blt k 143 then 3 else 24))) else (bif Nat.blt k 147 then (bif Nat.blt k 145 then 24 else 40) else 40))) else (bif Nat.blt k 161 then (bif Nat.blt k 155 then (bif Nat.blt k 152 then 10 else (bif Nat.blt k 153 then 0 else (bif Nat.blt k 154 then 400 else 2400))) else (bif Nat.blt k 158 then (bif Nat.blt k 156 then 7 else (bif Nat.blt k 157 then 360 else 6)) else (bif Nat.blt k 159 then 16 else (bif Nat.blt k 160 then 16 else 400)))) else (bif Nat.blt k 166 then (bif Nat.blt k 163 then (bif Nat.blt k 162 then 64 else 8) else (bif Nat.blt k 164 then 262 else (bif Nat.blt k 165 then 192 else 512))) else (bif Nat.blt k 169 then (bif Nat.blt k 167 then 512 else (bif Nat.blt k 168 then 512 else 252)) else (bif Nat.blt k 170 then 168 else (bif Nat.blt k 171 then 1048 else 4))))))))
noncomputable def wfR (k b : Nat) : Nat := (bif Nat.blt k 86 then (bif Nat.blt k 43 then (bif Nat.blt k 21 then (bif Nat.blt k 10 then (bif Nat.blt k 5 then (bif Nat.blt k 2 then (bif Nat.blt k 1 then (bif Nat.blt b 9 then (bif Nat.blt b 4 then (bif Nat.blt b 2 then (bif Nat.blt b 1 then 1 else 3) else (bif Nat.blt b 3 then 7 else 8)) else (bif Nat.blt b 6 then (bif Nat.blt b 5 then 9 else 13) else (bif Nat.blt b 7 then 0 else (bif Nat.blt b 8 then 14 else 26)))) else (bif Nat.blt b 13 then (bif Nat.blt b 11 then (bif Nat.blt b 10 then 27 else 28) else (bif Nat.blt b 12 then 32 else 33)) else (bif Nat.blt b 15 then (bif Nat.blt b 14 then 34 else 35) else (bif Nat.blt b 16 then 37 else (bif Nat.blt b 17 then 39 else 40))))) else (bif Nat.blt b 1 then 2 else 0)) else (bif Nat.blt k 3 then 0 else (bif Nat.blt k 4 then (bif Nat.blt b 3 then (bif Nat.blt b 1 then 4 else (bif Nat.blt b 2 then 5 else 6)) else 0) else 0))) else (bif Nat.blt k 7 then 0 else (bif Nat.blt k 8 then 0 else (bif Nat.blt k 9 then 0 else (bif Nat.blt b 1 then 10 else (bif Nat.blt b 2 then 11 else 12)))))) else (bif Nat.blt k 15 then (bif Nat.blt k 12 then 0 else (bif Nat.blt k 13 then 0 else (bif Nat.blt k 14 then 0 else (bif Nat.blt b 6 then (bif Nat.blt b 3 then (bif Nat.blt b 1 then 15 else (bif Nat.blt b 2 then 19 else 20)) else (bif Nat.blt b 4 then 21 else (bif Nat.blt b 5 then 22 else 23))) else (bif Nat.blt b 9 then (bif Nat.blt b 7 then 0 else (bif Nat.blt b 8 then 0 else 24)) else (bif Nat.blt b 10 then 25 else 0)))))) else (bif Nat.blt k 18 then (bif Nat.blt k 16 then (bif Nat.blt b 1 then 16 else (bif Nat.blt b 2 then 17 else 18)) else 0) else 0))) else (bif Nat.blt k 32 then (bif Nat.blt k 26 then 0 else (bif Nat.blt k 29 then (bif Nat.blt k 27 then 0 else (bif Nat.blt k 28 then 0 else (bif Nat.blt b 2 then (bif Nat.blt b 1 then 29 else 30) else (bif Nat.blt b 3 then 31 else 0)))) else 0)) else (bif Nat.blt k 37 then (bif Nat.blt k 34 then 0 else (bif Nat.blt k 35 then 0 else (bif Nat.blt k 36 then (bif Nat.blt b 1 then 36 else 0) else 0))) else (bif Nat.blt k 40 then (bif Nat.blt k 38 then (bif Nat.blt b 1 then 38 else 0) else 0) else (bif Nat.blt k 41 then (bif Nat.blt b 2 then (bif Nat.blt b 1 then 41 else 42) else (bif Nat.blt b 3 then 43 else 0)) else 0))))) else (bif Nat.blt k 64 then (bif Nat.blt k 53 then (bif Nat.blt k 48 then (bif Nat.blt k 45 then (bif Nat.blt k 44 then 0 else (bif Nat.blt b 6 then (bif Nat.blt b 3 then (bif Nat.blt b 1 then 45 else (bif Nat.blt b 2 then 0 else 46)) else (bif Nat.blt b 4 then 47 else (bif Nat.blt b 5 then 48 else 49))) else (bif Nat.blt b 9 then (bif Nat.blt b 7 then 0 else (bif Nat.blt b 8 then 50 else 51)) else (bif Nat.blt b 11 then (bif Nat.blt b 10 then 0 else 52) else (bif Nat.blt b 12 then 53 else 0))))) else 0) else 0) else (bif Nat.blt k 58 then (bif Nat.blt k 55 then (bif Nat.blt k 54 then 0 else (bif Nat.blt b 6 then (bif Nat.blt b 3 then (bif Nat.blt b 1 then 55 else (bif Nat.blt b 2 then 0 else 56)) else (bif Nat.blt b 4 then 57 else (bif Nat.blt b 5 then 58 else 59))) else (bif Nat.blt b 9 then (bif Nat.blt b 7 then 0 else (bif Nat.blt b 8 then 60 else 61)) else (bif Nat.blt b 11 then (bif Nat.blt b 10 then 0 else 62) else (bif Nat.blt b 12 then 63 else 0))))) else 0) else 0)) else (bif Nat.blt k 75 then (bif Nat.blt k 69 then (bif Nat.blt k 66 then (bif Nat.blt k 65 then (bif Nat.blt b 6 then (bif Nat.blt b 3 then (bif Nat.blt b 1 then 65 else (bif Nat.blt b 2 then 0 else 66)) else (bif Nat.blt b 4 then 67 else (bif Nat.blt b 5 then 68 else 69))) else (bif Nat.blt b 9 then (bif Nat.blt b 7 then 0 else (bif Nat.blt b 8 then 70 else 71)) else (bif Nat.blt b 11 then (bif Nat.blt b 10 then 0 else 72) else (bif Nat.blt b 12 then 73 else 0)))) else 0) else 0) else (bif Nat.blt k 72 then 0 else (bif Nat.blt k 73 then 0 else (bif Nat.blt k 74 then 0 else (bif Nat.blt b 6 then (bif Nat.blt b 3 then (bif Nat.blt b 1 then 75 else (bif Nat.blt b 2 then 0 else 76)) else (bif Nat.blt b 4 then 77 else (bif Nat.blt b 5 then 78 else 79))) else (bif Nat.blt b 9 then (bif Nat.blt b 7 then 0 else (bif Nat.blt b 8 then 80 else 81)) else (bif Nat.blt b 11 then (bif Nat.blt b 10 then 0 else 82) else (bif Nat.blt b 12 then 83 else 0)))))))) else (bif Nat.blt k 80 then 0 else (bif Nat.blt k 83 then 0 else (bif Nat.blt k 84 then 0 else (bif Nat.blt k 85 then (bif Nat.blt b 6 then (bif Nat.blt b 3 then (bif Nat.blt b 1 then 85 else (bif Nat.blt b 2 then 0 else 86)) else (bif Nat.blt b 4 then 87 else (bif Nat.blt b 5 then 88 else 89))) else (bif Nat.blt b 9 then (bif Nat.blt b 7 then 0 else (bif Nat.blt b 8 then 90 else 91)) else (bif Nat.blt b 11 then (bif Nat.blt b 10 then 0 else 92) else (bif Nat.blt b 12 then 93 else 0)))) else 0))))))) else (bif Nat.blt k 129 then (bif Nat.blt k 107 then (bif Nat.blt k 96 then (bif Nat.blt k 91 then 0 else (bif Nat.blt k 93 then 0 else (bif Nat.blt k 94 then 0 else (bif Nat.blt k 95 then (bif Nat.blt b 6 then (bif Nat.blt b 3 then (bif Nat.blt b 1 then 95 else (bif Nat.blt b 2 then 0 else 96)) else (bif Nat.blt b 4 then 97 else (bif Nat.blt b 5 then 98 else 99))) else (bif Nat.blt b 9 then (bif Nat.blt b 7 then 0 else (bif Nat.blt b 8 then 100 else 101)) else (bif Nat.blt b 11 then (bif Nat.blt b 10 then 0 else 102) else (bif Nat.blt b 12 then 103 else 0)))) else 0)))) else (bif Nat.blt k 101 then 0 else (bif Nat.blt k 104 then 0 else (bif Nat.blt k 105 then (bif Nat.blt b 6 then (bif Nat.blt b 3 then (bif Nat.blt b 1 then 105 else (bif Nat.blt b 2 then 109 else 110)) else (bif Nat.blt b 4 then 111 else (bif Nat.blt b 5 then 112 else 113))) else (bif Nat.blt b 9 then (bif Nat.blt b 7 then 0 else (bif Nat.blt b 8 then 0 else 114)) else (bif Nat.blt b 10 then 115 else 0))) else (bif Nat.blt k 106 then (bif Nat.blt b 1 then 106 else (bif Nat.blt b 2 then 107 else 108)) else 0))))) else (bif Nat.blt k 118 then (bif Nat.blt k 112 then 0 else (bif Nat.blt k 115 then 0 else (bif Nat.blt k 116 then 0 else (bif Nat.blt k 117 then (bif Nat.blt b 6 then (bif Nat.blt b 3 then (bif Nat.blt b 1 then 117 else (bif Nat.blt b 2 then 121 else 122)) else (bif Nat.blt b 4 then 123 else (bif Nat.blt b 5 then 124 else 125))) else (bif Nat.blt b 9 then (bif Nat.blt b 7 then 0 else (bif Nat.blt b 8 then 0 else 126)) else (bif Nat.blt b 10 then 127 else 0))) else (bif Nat.blt b 1 then 118 else (bif Nat.blt b 2 then 119 else 120)))))) else (bif Nat.blt k 123 then 0 else (bif Nat.blt k 126 then 0 else (bif Nat.blt k 127 then 0 else (bif Nat.blt k 128 then 0 else (bif Nat.blt b 6 then (bif Nat.blt b 3 then (bif Nat.blt b 1 then 129 else (bif Nat.blt b 2 then 133 else 134)) else (bif Nat.blt b 4 then 135 else (bif Nat.blt b 5 then 136 else 137))) else (bif Nat.blt b 9 then (bif Nat.blt b 7 then 0 else (bif Nat.blt b 8 then 0 else 138)) else (bif Nat.blt b 10 then 139 else 0))))))))) else (bif Nat.blt k 150 then (bif Nat.blt k 139 then (bif Nat.blt k 134 then (bif Nat.blt k 131 then (bif Nat.blt k 130 then (bif Nat.blt b 1 then 130 else (bif Nat.blt b 2 then 131 else 132)) else 0) else 0) else 0) else (bif Nat.blt k 144 then (bif Nat.blt k 141 then (bif Nat.blt k 140 then 0 else (bif Nat.blt b 6 then (bif Nat.blt b 3 then (bif Nat.blt b 1 then 141 else (bif Nat.blt b 2 then 145 else 146)) else (bif Nat.blt b 4 then 147 else (bif Nat.blt b 5 then 148 else 149))) else (bif Nat.blt b 9 then (bif Nat.blt b 7 then 0 else (bif Nat.blt b 8 then 0 else 150)) else (bif Nat.blt b 10 then 151 else 0)))) else (bif Nat.blt k 142 then (bif Nat.blt b 1 then 142 else (bif Nat.blt b 2 then 143 else 144)) else 0)) else 0)) else (bif Nat.blt k 161 then (bif Nat.blt k 155 then (bif Nat.blt k 152 then 0 else (bif Nat.blt k 153 then (bif Nat.blt b 19 then (bif Nat.blt b 9 then (bif Nat.blt b 4 then (bif Nat.blt b 2 then (bif Nat.blt b 1 then 153 else 0) else (bif Nat.blt b 3 then 0 else 154)) else (bif Nat.blt b 6 then (bif Nat.blt b 5 then 155 else 156) else (bif Nat.blt b 7 then 157 else 0))) else (bif Nat.blt b 14 then (bif Nat.blt b 11 then (bif Nat.blt b 10 then 0 else 158) else (bif Nat.blt b 12 then 159 else 0)) else 0)) else (bif Nat.blt b 29 then (bif Nat.blt b 24 then (bif Nat.blt b 21 then (bif Nat.blt b 20 then 160 else 0) else (bif Nat.blt b 22 then 161 else (bif Nat.blt b 23 then 0 else 162))) else (bif Nat.blt b 26 then (bif Nat.blt b 25 then 163 else 164) else (bif Nat.blt b 27 then 165 else 0))) else (bif Nat.blt b 34 then (bif Nat.blt b 31 then (bif Nat.blt b 30 then 0 else 166) else (bif Nat.blt b 32 then 167 else (bif Nat.blt b 33 then 168 else 0))) else (bif Nat.blt b 36 then 0 else (bif Nat.blt b 37 then 169 else (bif Nat.blt b 38 then 170 else 171)))))) else 0)) else 0) else 0))))
noncomputable def wrA (k i : Nat) : Option Nat := bif Nat.beq k 13 then (bif Nat.blt i 6 then some (45 + 10 * i) else none) else (bif Nat.blt i 4 then some (105 + 12 * i) else none)
noncomputable def wfk (a b : Nat) : Nat := bif Nat.blt a 12 && Nat.blt b (ri_fn a) then (bif Nat.blt a 6 then (bif Nat.blt a 3 then (bif Nat.blt a 1 then 3 else (bif Nat.blt a 2 then 1 else (bif Nat.blt b 6 then 3 else (bif Nat.blt b 9 then (bif Nat.blt b 7 then 0 else (bif Nat.blt b 8 then 0 else 3)) else (bif Nat.blt b 10 then 3 else 0))))) else (bif Nat.blt a 4 then (bif Nat.blt b 6 then (bif Nat.blt b 3 then (bif Nat.blt b 1 then 3 else (bif Nat.blt b 2 then 0 else 3)) else 3) else (bif Nat.blt b 9 then (bif Nat.blt b 7 then 0 else 3) else (bif Nat.blt b 11 then (bif Nat.blt b 10 then 0 else 3) else (bif Nat.blt b 12 then 3 else 1)))) else (bif Nat.blt a 5 then 0 else (bif Nat.blt b 2 then 3 else (bif Nat.blt b 3 then 3 else 0))))) else (bif Nat.blt a 9 then (bif Nat.blt a 7 then (bif Nat.blt b 2 then 3 else (bif Nat.blt b 3 then 3 else 0)) else (bif Nat.blt b 1 then 3 else 0)) else (bif Nat.blt a 10 then (bif Nat.blt b 3 then 3 else 0) else (bif Nat.blt a 11 then (bif Nat.blt b 9 then (bif Nat.blt b 4 then 3 else (bif Nat.blt b 6 then 3 else (bif Nat.blt b 7 then 0 else 3))) else 3) else (bif Nat.blt b 19 then (bif Nat.blt b 9 then (bif Nat.blt b 4 then (bif Nat.blt b 2 then (bif Nat.blt b 1 then 3 else 0) else (bif Nat.blt b 3 then 0 else 3)) else (bif Nat.blt b 6 then 3 else (bif Nat.blt b 7 then 3 else 0))) else (bif Nat.blt b 14 then (bif Nat.blt b 11 then (bif Nat.blt b 10 then 0 else 3) else (bif Nat.blt b 12 then 3 else 0)) else 0)) else (bif Nat.blt b 29 then (bif Nat.blt b 24 then (bif Nat.blt b 21 then (bif Nat.blt b 20 then 3 else 0) else (bif Nat.blt b 22 then 3 else (bif Nat.blt b 23 then 0 else 3))) else (bif Nat.blt b 26 then 3 else (bif Nat.blt b 27 then 3 else 0))) else (bif Nat.blt b 34 then (bif Nat.blt b 31 then (bif Nat.blt b 30 then 0 else 3) else (bif Nat.blt b 32 then 3 else (bif Nat.blt b 33 then 3 else 0))) else (bif Nat.blt b 36 then 0 else 3)))))))) else 9
noncomputable def wfld (s : wS) (k b : Nat) : Value := if wfk (wkd k) b = 3 then .ref (wfR k b + 1) else if wfk (wkd k) b = 2 then .long (s.2 k b) else .int (s.1 k b)
noncomputable def wCl (k : Nat) : FieldType := bif Nat.beq k 13 then .object RX3 else .object RX2
noncomputable def wcell (s : wS) (k : Nat) : ri_C := if wkd k < 12 then .inr (wkd k, (List.range (ri_fn (wkd k))).map (wfld s k)) else if wkd k = 20 then .inl (.int, (wln k, .inl (s.1 k))) else if wkd k = 21 then .inl (.byte, (wln k, .inl (s.1 k))) else if wkd k = 22 then .inl (.boolean, (wln k, .inl (s.1 k))) else if wkd k = 23 then .inl (.long, (wln k, .inr (.inl (s.2 k)))) else .inl (wCl k, (wln k, .inr (.inr (.inr (.inr (wrA k))))))
noncomputable def wmk (s : wS) : ri_M := (List.range 172).map (wcell s)
theorem wlt {k : Nat} (h : wkd k ≠ 99) : k < 172 := by
  by_cases g : k < 172
  · exact g
  · exfalso
    apply h
    unfold wkd
    rw [show Nat.blt k 172 = false from Bool.eq_false_iff.2 (fun e => g (Nat.le_of_ble_eq_true e))]
    rfl
theorem wget {s : wS} {k : Nat} (h : wkd k ≠ 99) : (wmk s)[k]? = some (wcell s k) := by
  have := wlt h
  simp [wmk, List.getElem?_map, List.getElem?_range, this]
theorem wcell_congr {s s' : wS} {j : Nat} (h1 : s'.1 j = s.1 j) (h2 : s'.2 j = s.2 j) : wcell s' j = wcell s j := by
  have : wfld s' j = wfld s j := by
    funext b
    simp only [wfld, h1, h2]
  simp only [wcell, h1, h2, this]
theorem wset {s s' : wS} {k : Nat} {x : ri_C} (hx : wcell s' k = x) (h1 : ∀ j, j ≠ k → s'.1 j = s.1 j) (h2 : ∀ j, j ≠ k → s'.2 j = s.2 j) : (wmk s).set k x = wmk s' := by
  apply List.ext_getElem?
  intro j
  rw [List.getElem?_set]
  by_cases hj : k = j
  · subst hj
    by_cases hl : k < 172
    · simp [wmk, List.getElem?_map, List.getElem?_range, hl, hx]
    · simp [wmk, hl]
  · rw [if_neg hj]
    by_cases hl : j < 172
    · simp [wmk, List.getElem?_map, List.getElem?_range, hl, wcell_congr (h1 j (Ne.symm hj)) (h2 j (Ne.symm hj))]
    · simp [wmk, hl]
noncomputable def wupI (s : wS) (k b : Nat) (v : Int32) : wS := (fun j => if j = k then upd (s.1 k) b v else s.1 j, s.2)
noncomputable def wupL (s : wS) (k b : Nat) (v : Int64) : wS := (s.1, fun j => if j = k then vp_updL (s.2 k) b v else s.2 j)
theorem wupI_k {s : wS} {k b : Nat} {v : Int32} : (wupI s k b v).1 k = upd (s.1 k) b v := by simp [wupI]
theorem wupI_n {s : wS} {k b j : Nat} {v : Int32} (h : j ≠ k) : (wupI s k b v).1 j = s.1 j := by simp [wupI, h]
theorem wupL_k {s : wS} {k b : Nat} {v : Int64} : (wupL s k b v).2 k = vp_updL (s.2 k) b v := by simp [wupL]
theorem wupL_n {s : wS} {k b j : Nat} {v : Int64} (h : j ≠ k) : (wupL s k b v).2 j = s.2 j := by simp [wupL, h]
theorem wfk_b {a b : Nat} (h : wfk a b ≠ 9) : a < 12 ∧ b < ri_fn a := by
  unfold wfk at h
  cases e : (Nat.blt a 12 && Nat.blt b (ri_fn a))
  · rw [e] at h
    exact absurd rfl h
  · simpa [Nat.blt_eq] using e
theorem wcell_o {s : wS} {k a : Nat} (h : wkd k = a) (ha : a < 12) : wcell s k = .inr (a, (List.range (ri_fn a)).map (wfld s k)) := by
  subst h
  unfold wcell
  rw [if_pos ha]
theorem wget_o {s : wS} {k a : Nat} (h : wkd k = a) (ha : a < 12) : (wmk s)[k]? = some (.inr (a, (List.range (ri_fn a)).map (wfld s k))) := by
  rw [wget (by omega), wcell_o h ha]
theorem wfs {s : wS} {k n b : Nat} (h : b < n) : ((List.range n).map (wfld s k))[b]? = some (wfld s k b) := by
  simp [List.getElem?_map, List.getElem?_range, h]
theorem wget_I {s : wS} {k : Nat} (h : wkd k = 20) : (wmk s)[k]? = some (.inl (.int, (wln k, .inl (s.1 k)))) := by
  rw [wget (by omega)]
  simp [wcell, h]
theorem wget_B {s : wS} {k : Nat} (h : wkd k = 21) : (wmk s)[k]? = some (.inl (.byte, (wln k, .inl (s.1 k)))) := by
  rw [wget (by omega)]
  simp [wcell, h]
theorem wget_Z {s : wS} {k : Nat} (h : wkd k = 22) : (wmk s)[k]? = some (.inl (.boolean, (wln k, .inl (s.1 k)))) := by
  rw [wget (by omega)]
  simp [wcell, h]
theorem wget_J {s : wS} {k : Nat} (h : wkd k = 23) : (wmk s)[k]? = some (.inl (.long, (wln k, .inr (.inl (s.2 k))))) := by
  rw [wget (by omega)]
  simp [wcell, h]
theorem wget_A {s : wS} {k : Nat} (h : wkd k = 24 ∨ wkd k = 25) : (wmk s)[k]? = some (.inl (wCl k, (wln k, .inr (.inr (.inr (.inr (wrA k))))))) := by
  rw [wget (by omega)]
  rcases h with h | h <;> simp [wcell, h]
theorem wsetI {s : wS} {k a b : Nat} {v : Int32} (h : wkd k = a) (hf : wfk a b < 2) : (wmk s).set k (.inr (a, ((List.range (ri_fn a)).map (wfld s k)).set b (.int v))) = wmk (wupI s k b v) := by
  have hb := wfk_b (a := a) (b := b) (by omega)
  refine wset ?_ (fun j hj => wupI_n hj) (fun _ _ => rfl)
  rw [wcell_o h hb.1]
  congr 2
  apply List.ext_getElem?
  intro j
  rw [List.getElem?_set]
  by_cases hj : b = j
  · subst hj
    rw [if_pos rfl, if_pos (by simpa using hb.2), wfs hb.2]
    simp only [wfld, h, wupI_k, upd, if_true]
    rw [if_neg (by omega), if_neg (by omega)]
  · rw [if_neg hj]
    by_cases hl : j < ri_fn a
    · rw [wfs hl, wfs hl]
      simp only [wfld, wupI_k, upd, if_neg (Ne.symm hj)]
      rfl
    · simp [hl]
theorem wsetL {s : wS} {k a b : Nat} {v : Int64} (h : wkd k = a) (hf : wfk a b = 2) : (wmk s).set k (.inr (a, ((List.range (ri_fn a)).map (wfld s k)).set b (.long v))) = wmk (wupL s k b v) := by
  have hb := wfk_b (a := a) (b := b) (by omega)
  refine wset ?_ (fun _ _ => rfl) (fun j hj => wupL_n hj)
  rw [wcell_o h hb.1]
  congr 2
  apply List.ext_getElem?
  intro j
  rw [List.getElem?_set]
  by_cases hj : b = j
  · subst hj
    rw [if_pos rfl, if_pos (by simpa using hb.2), wfs hb.2]
    simp only [wfld, h, hf, wupL_k, vp_updL, if_true]
    rfl
  · rw [if_neg hj]
    by_cases hl : j < ri_fn a
    · rw [wfs hl, wfs hl]
      simp only [wfld, wupL_k, vp_updL, if_neg (Ne.symm hj)]
      rfl
    · simp [hl]
theorem wsetAI {s : wS} {k i : Nat} {v : Int32} (h : wkd k = 20) : (wmk s).set k (.inl (.int, (wln k, .inl (upd (s.1 k) i v)))) = wmk (wupI s k i v) := by
  refine wset ?_ (fun j hj => wupI_n hj) (fun _ _ => rfl)
  simp [wcell, h, wupI_k]
theorem wsetAB {s : wS} {k i : Nat} {v : Int32} (h : wkd k = 21) : (wmk s).set k (.inl (.byte, (wln k, .inl (upd (s.1 k) i v)))) = wmk (wupI s k i v) := by
  refine wset ?_ (fun j hj => wupI_n hj) (fun _ _ => rfl)
  simp [wcell, h, wupI_k]
theorem wsetAZ {s : wS} {k i : Nat} {v : Int32} (h : wkd k = 22) : (wmk s).set k (.inl (.boolean, (wln k, .inl (upd (s.1 k) i v)))) = wmk (wupI s k i v) := by
  refine wset ?_ (fun j hj => wupI_n hj) (fun _ _ => rfl)
  simp [wcell, h, wupI_k]
theorem wsetAJ {s : wS} {k i : Nat} {v : Int64} (h : wkd k = 23) : (wmk s).set k (.inl (.long, (wln k, .inr (.inl (vp_updL (s.2 k) i v))))) = wmk (wupL s k i v) := by
  refine wset ?_ (fun _ _ => rfl) (fun j hj => wupL_n hj)
  simp [wcell, h, wupL_k]
/-- the operations that can fail -/
noncomputable def wldI (s : wS) (k n : Nat) (i : Int32) : Option Int32 := if i < 0 ∨ n ≤ i.toNatClampNeg then none else some (s.1 k i.toNatClampNeg)
noncomputable def wldL (s : wS) (k n : Nat) (i : Int32) : Option Int64 := if i < 0 ∨ n ≤ i.toNatClampNeg then none else some (s.2 k i.toNatClampNeg)
noncomputable def wldR (k n : Nat) (i : Int32) : Option Nat := if i < 0 ∨ n ≤ i.toNatClampNeg then none else (wrA k i.toNatClampNeg).map Nat.pred
noncomputable def wstI (s : wS) (k n : Nat) (i v : Int32) : Option wS := if i < 0 ∨ n ≤ i.toNatClampNeg then none else some (wupI s k i.toNatClampNeg v)
noncomputable def wstB (s : wS) (k n : Nat) (i v : Int32) : Option wS := if i < 0 ∨ n ≤ i.toNatClampNeg then none else some (wupI s k i.toNatClampNeg (vp_nar .byte v))
noncomputable def wstZ (s : wS) (k n : Nat) (i v : Int32) : Option wS := if i < 0 ∨ n ≤ i.toNatClampNeg then none else some (wupI s k i.toNatClampNeg (vp_nar .boolean v))
noncomputable def wstL (s : wS) (k n : Nat) (i : Int32) (v : Int64) : Option wS := if i < 0 ∨ n ≤ i.toNatClampNeg then none else some (wupL s k i.toNatClampNeg v)
noncomputable def wpfI (s : wS) (k b : Nat) (v : Int32) : Option wS := some (wupI s k b v)
noncomputable def wpfL (s : wS) (k b : Nat) (v : Int64) : Option wS := some (wupL s k b v)
noncomputable def wpfZ (s : wS) (k b : Nat) (v : Int32) : Option wS := if v = 0 ∨ v = 1 then some (wupI s k b v) else none
noncomputable def wdvI (x y : Int32) : Option Int32 := if y = 0 then none else some (x / y)
noncomputable def wrmI (x y : Int32) : Option Int32 := if y = 0 then none else some (x - x / y * y)
noncomputable def wdvL (x y : Int64) : Option Int64 := if y = 0 then none else some (x / y)
noncomputable def wrmL (x y : Int64) : Option Int64 := if y = 0 then none else some (x - x / y * y)
noncomputable def wcpI (s : wS) (k n k1 n1 : Nat) (sp dp m : Int32) : Option wS := if ¬ sp < 0 ∧ ¬ dp < 0 ∧ ¬ m < 0 ∧ sp.toNatClampNeg + m.toNatClampNeg ≤ n ∧ dp.toNatClampNeg + m.toNatClampNeg ≤ n1 then some (fun j => if j = k1 then va_cpy (s.1 k) (s.1 k1) sp.toNatClampNeg dp.toNatClampNeg m.toNatClampNeg else s.1 j, s.2) else none
noncomputable def wrtZ (v : Int32) : Option Int32 := if v = 0 ∨ v = 1 then some v else none
noncomputable def wmin (x y : Int32) : Int32 := if y < x then y else x
noncomputable def wmax (x y : Int32) : Int32 := if x < y then y else x
noncomputable def wabs (x : Int32) : Int32 := if 0 ≤ x then x else 0 - x
noncomputable def wrv (o : Option Nat) : Value := match o with
  | none => .null
  | some k => .ref (k + 1)
noncomputable def wFuel : Nat := 1099511627776
theorem gb {α β : Type} {x : Option α} {f : α → Option β} {r : β} (h : x.bind f = some r) : ∃ a, x = some a ∧ f a = some r := by
  cases x with
  | none => exact absurd h (by simp)
  | some a => exact ⟨a, rfl, h⟩
theorem gif {α : Type} {c : Prop} [Decidable c] {a b x : α} (h : (if c then a else b) = x) : (c ∧ a = x) ∨ (¬ c ∧ b = x) := by
  by_cases g : c
  · rw [if_pos g] at h; exact .inl ⟨g, h⟩
  · rw [if_neg g] at h; exact .inr ⟨g, h⟩
theorem gel {α β : Type} {o : Option α} {a : β} {f : α → β} {x : β} (h : o.elim a f = x) : (o = none ∧ a = x) ∨ ∃ k, o = some k ∧ f k = x := by
  cases o with
  | none => exact .inl ⟨rfl, h⟩
  | some k => exact .inr ⟨k, rfl, h⟩
/-- a run from a place, at any depth from d on, with fuel enough -/
noncomputable def gRun (d m pc : Nat) (L : ri_L) (st : List Value) (M : ri_M) (r : ri_R) : Prop := ∃ N, ∀ fuel, N ≤ fuel → ∀ n, N ≤ n → ∀ d', d ≤ d' → ri_run none (ri_call ri_tc ri_ml ri_rt ri_rc fuel d') ri_rc (ri_tc m) (ri_rt m) n pc L st M 0 0 = some r
/-- a call -/
noncomputable def gEv (d m : Nat) (as : List Value) (M : ri_M) (r : ri_R) : Prop := ∃ N, ∀ fuel, N ≤ fuel → ∀ d', d ≤ d' → ri_call ri_tc ri_ml ri_rt ri_rc fuel d' m as M = some r
variable {d m pc : Nat} {L L1 : ri_L} {st st1 : List Value} {M M1 : ri_M} {r : ri_R}
theorem gEv_of {as : List Value} (he : ri_ent as (ri_ml m) = some L) (h : gRun d m 0 L [] M r) : gEv (d + 1) m as M r := by
  obtain ⟨N, h⟩ := h
  refine ⟨N, fun fuel hf d' hd => ?_⟩
  obtain ⟨e, rfl⟩ : ∃ e, d' = e + 1 := ⟨d' - 1, by omega⟩
  show (match ri_ent as (ri_ml m) with
    | some L => ri_run none (ri_call ri_tc ri_ml ri_rt ri_rc fuel e) ri_rc (ri_tc m) (ri_rt m) fuel 0 L [] M 0 0
    | none => none) = some r
  rw [he]
  exact h fuel hf fuel hf e (by omega)
theorem gR_go (k : Nat) {pc1 : Nat} (h : ∀ call n, ri_run none call ri_rc (ri_tc m) (ri_rt m) (n + k) pc L st M 0 0 = ri_run none call ri_rc (ri_tc m) (ri_rt m) n pc1 L1 st1 M1 0 0) (g : gRun d m pc1 L1 st1 M1 r) : gRun d m pc L st M r := by
  obtain ⟨N, g⟩ := g
  refine ⟨N + k, fun fuel hf n hn d' hd => ?_⟩
  obtain ⟨e, rfl⟩ : ∃ e, n = e + k := ⟨n - k, by omega⟩
  rw [h]
  exact g fuel (by omega) e (by omega) d' hd
theorem gR_ret (k : Nat) (h : ∀ call n, ri_run none call ri_rc (ri_tc m) (ri_rt m) (n + k) pc L st M 0 0 = some r) : gRun d m pc L st M r := by
  refine ⟨k, fun fuel hf n hn d' hd => ?_⟩
  obtain ⟨e, rfl⟩ : ∃ e, n = e + k := ⟨n - k, by omega⟩
  exact h _ e
theorem gR_st {ins : Instr} {len a b c pc1 : Nat} (hc : ri_tc m pc = some (ins, len, a, b, c)) (h : ∀ call, ri_step none call ri_rc (ri_rt m) (ins, len, a, b, c) pc L st M 0 0 = some (.inl (pc1, L1, st1, M1, 0, 0))) (g : gRun d m pc1 L1 st1 M1 r) : gRun d m pc L st M r := by
  refine gR_go 1 (fun call n => ?_) g
  show (match ri_tc m pc with
    | none => none
    | some j => match ri_step none call ri_rc (ri_rt m) j pc L st M 0 0 with
      | some (.inl (pc1, L1, st1, M1, c1, s1)) => ri_run none call ri_rc (ri_tc m) (ri_rt m) n pc1 L1 st1 M1 c1 s1
      | some (.inr r) => some r
      | none => none) = _
  rw [hc]
  simp only [h]
theorem gR_rs {ins : Instr} {len a b c : Nat} (hc : ri_tc m pc = some (ins, len, a, b, c)) (h : ∀ call, ri_step none call ri_rc (ri_rt m) (ins, len, a, b, c) pc L st M 0 0 = some (.inr r)) : gRun d m pc L st M r := by
  refine gR_ret 1 (fun call n => ?_)
  show (match ri_tc m pc with
    | none => none
    | some j => match ri_step none call ri_rc (ri_rt m) j pc L st M 0 0 with
      | some (.inl (pc1, L1, st1, M1, c1, s1)) => ri_run none call ri_rc (ri_tc m) (ri_rt m) n pc1 L1 st1 M1 c1 s1
      | some (.inr r) => some r
      | none => none) = _
  rw [hc]
  simp only [h]
theorem gR_ca {ins : Instr} {len a b c pc1 a' d1 : Nat} {as : List Value} {v : Option Value} (he : gEv d1 a' as M (v, M1, 0, 0)) (hd : d1 ≤ d) (hc : ri_tc m pc = some (ins, len, a, b, c)) (h : ∀ call : ri_Ca, call a' as M = some (v, M1, 0, 0) → ri_step none call ri_rc (ri_rt m) (ins, len, a, b, c) pc L st M 0 0 = some (.inl (pc1, L1, st1, M1, 0, 0))) (g : gRun d m pc1 L1 st1 M1 r) : gRun d m pc L st M r := by
  obtain ⟨N, he⟩ := he
  obtain ⟨N1, g⟩ := g
  refine ⟨N + N1 + 1, fun fuel hf n hn d' hd' => ?_⟩
  obtain ⟨e, rfl⟩ : ∃ e, n = e + 1 := ⟨n - 1, by omega⟩
  show (match ri_tc m pc with
    | none => none
    | some j => match ri_step none (ri_call ri_tc ri_ml ri_rt ri_rc fuel d') ri_rc (ri_rt m) j pc L st M 0 0 with
      | some (.inl (pc1, L1, st1, M1, c1, s1)) => ri_run none (ri_call ri_tc ri_ml ri_rt ri_rc fuel d') ri_rc (ri_tc m) (ri_rt m) e pc1 L1 st1 M1 c1 s1
      | some (.inr r) => some r
      | none => none) = _
  rw [hc]
  simp only [h _ (he fuel (by omega) d' (by omega))]
  exact g fuel (by omega) e (by omega) d' hd'
theorem gR_eqM (e : M = M1) (g : gRun d m pc L st M1 r) : gRun d m pc L st M r := e ▸ g
