section
/-! The general world of the two objects: a state is what the cells of ints and the cells of longs hold; the shape stays. -/
noncomputable abbrev wS : Type := (Nat → Nat → Int32) × (Nat → Nat → Int64)
noncomputable def wkdT (k : Nat) : Nat := (bif Nat.blt k 86 then (bif Nat.blt k 43 then (bif Nat.blt k 21 then (bif Nat.blt k 10 then (bif Nat.blt k 5 then (bif Nat.blt k 2 then (bif Nat.blt k 1 then 10 else 8) else (bif Nat.blt k 3 then 21 else (bif Nat.blt k 4 then 9 else 20))) else (bif Nat.blt k 7 then 20 else (bif Nat.blt k 8 then 1 else (bif Nat.blt k 9 then 4 else 0)))) else (bif Nat.blt k 15 then (bif Nat.blt k 12 then 20 else (bif Nat.blt k 13 then 20 else (bif Nat.blt k 14 then 24 else 2))) else (bif Nat.blt k 18 then (bif Nat.blt k 16 then 0 else 20) else 20))) else (bif Nat.blt k 32 then (bif Nat.blt k 26 then (bif Nat.blt k 23 then 20 else (bif Nat.blt k 24 then 22 else 20)) else (bif Nat.blt k 29 then (bif Nat.blt k 27 then 25 else (bif Nat.blt k 28 then 22 else 5)) else 20)) else (bif Nat.blt k 37 then (bif Nat.blt k 34 then 20 else (bif Nat.blt k 35 then 20 else (bif Nat.blt k 36 then 7 else 20))) else (bif Nat.blt k 40 then (bif Nat.blt k 38 then 7 else 20) else (bif Nat.blt k 41 then 6 else 20))))) else (bif Nat.blt k 64 then (bif Nat.blt k 53 then (bif Nat.blt k 48 then (bif Nat.blt k 45 then (bif Nat.blt k 44 then 20 else 3) else 20) else (bif Nat.blt k 50 then 20 else 23)) else (bif Nat.blt k 58 then (bif Nat.blt k 55 then (bif Nat.blt k 54 then 20 else 3) else 20) else (bif Nat.blt k 61 then (bif Nat.blt k 59 then 20 else (bif Nat.blt k 60 then 20 else 23)) else (bif Nat.blt k 62 then 23 else (bif Nat.blt k 63 then 23 else 20))))) else (bif Nat.blt k 75 then (bif Nat.blt k 69 then (bif Nat.blt k 66 then (bif Nat.blt k 65 then 3 else 20) else 20) else (bif Nat.blt k 72 then (bif Nat.blt k 70 then 20 else 23) else (bif Nat.blt k 73 then 23 else (bif Nat.blt k 74 then 20 else 3)))) else (bif Nat.blt k 80 then 20 else (bif Nat.blt k 83 then 23 else (bif Nat.blt k 84 then 20 else (bif Nat.blt k 85 then 3 else 20))))))) else (bif Nat.blt k 129 then (bif Nat.blt k 107 then (bif Nat.blt k 96 then (bif Nat.blt k 91 then (bif Nat.blt k 88 then 20 else (bif Nat.blt k 89 then 20 else (bif Nat.blt k 90 then 20 else 23))) else (bif Nat.blt k 93 then 23 else (bif Nat.blt k 94 then 20 else (bif Nat.blt k 95 then 3 else 20)))) else (bif Nat.blt k 101 then (bif Nat.blt k 98 then 20 else (bif Nat.blt k 99 then 20 else (bif Nat.blt k 100 then 20 else 23))) else (bif Nat.blt k 104 then (bif Nat.blt k 102 then 23 else (bif Nat.blt k 103 then 23 else 20)) else (bif Nat.blt k 105 then 2 else (bif Nat.blt k 106 then 0 else 20))))) else (bif Nat.blt k 118 then (bif Nat.blt k 112 then 20 else (bif Nat.blt k 115 then (bif Nat.blt k 113 then 20 else (bif Nat.blt k 114 then 22 else 20)) else (bif Nat.blt k 116 then 20 else (bif Nat.blt k 117 then 2 else 0)))) else (bif Nat.blt k 123 then 20 else (bif Nat.blt k 126 then (bif Nat.blt k 124 then 20 else (bif Nat.blt k 125 then 20 else 22)) else (bif Nat.blt k 127 then 20 else (bif Nat.blt k 128 then 20 else 2)))))) else (bif Nat.blt k 150 then (bif Nat.blt k 139 then (bif Nat.blt k 134 then (bif Nat.blt k 131 then (bif Nat.blt k 130 then 0 else 20) else 20) else (bif Nat.blt k 136 then 20 else (bif Nat.blt k 137 then 20 else (bif Nat.blt k 138 then 22 else 20)))) else (bif Nat.blt k 144 then (bif Nat.blt k 141 then (bif Nat.blt k 140 then 20 else 2) else (bif Nat.blt k 142 then 0 else 20)) else (bif Nat.blt k 147 then 20 else (bif Nat.blt k 148 then 20 else (bif Nat.blt k 149 then 20 else 22))))) else (bif Nat.blt k 161 then (bif Nat.blt k 155 then (bif Nat.blt k 152 then 20 else (bif Nat.blt k 153 then 11 else (bif Nat.blt k 154 then 21 else 20))) else 20) else (bif Nat.blt k 166 then (bif Nat.blt k 163 then 23 else (bif Nat.blt k 164 then 20 else (bif Nat.blt k 165 then 23 else 22))) else (bif Nat.blt k 169 then 20 else (bif Nat.blt k 170 then 23 else (bif Nat.blt k 171 then 20 else 22))))))))
noncomputable def wkd (k : Nat) : Nat := bif Nat.blt k 172 then wkdT k else 99
noncomputable def wln (k : Nat) : Nat := (bif Nat.blt k 86 then (bif Nat.blt k 43 then (bif Nat.blt k 21 then (bif Nat.blt k 10 then (bif Nat.blt k 5 then (bif Nat.blt k 2 then 0 else (bif Nat.blt k 3 then 400 else (bif Nat.blt k 4 then 0 else 401))) else (bif Nat.blt k 7 then 401 else 0)) else (bif Nat.blt k 15 then (bif Nat.blt k 12 then (bif Nat.blt k 11 then 3 else 24) else (bif Nat.blt k 13 then 24 else (bif Nat.blt k 14 then 6 else 0))) else (bif Nat.blt k 18 then (bif Nat.blt k 16 then 0 else (bif Nat.blt k 17 then 3 else 24)) else (bif Nat.blt k 19 then 24 else 40)))) else (bif Nat.blt k 32 then (bif Nat.blt k 26 then (bif Nat.blt k 23 then 40 else (bif Nat.blt k 24 then 40 else 10)) else (bif Nat.blt k 29 then (bif Nat.blt k 27 then 4 else (bif Nat.blt k 28 then 4 else 0)) else 84)) else (bif Nat.blt k 37 then (bif Nat.blt k 34 then (bif Nat.blt k 33 then 24 else 512) else (bif Nat.blt k 35 then 512 else (bif Nat.blt k 36 then 0 else 24))) else (bif Nat.blt k 40 then (bif Nat.blt k 38 then 0 else (bif Nat.blt k 39 then 24 else 12)) else (bif Nat.blt k 41 then 0 else 84))))) else (bif Nat.blt k 64 then (bif Nat.blt k 53 then (bif Nat.blt k 48 then (bif Nat.blt k 45 then (bif Nat.blt k 44 then 256 else 0) else (bif Nat.blt k 46 then 400 else 12)) else (bif Nat.blt k 50 then 12 else (bif Nat.blt k 51 then 8 else (bif Nat.blt k 52 then 61 else 192)))) else (bif Nat.blt k 58 then (bif Nat.blt k 55 then (bif Nat.blt k 54 then 192 else 0) else (bif Nat.blt k 56 then 400 else 12)) else (bif Nat.blt k 61 then (bif Nat.blt k 59 then 12 else (bif Nat.blt k 60 then 12 else 8)) else (bif Nat.blt k 62 then 61 else 192)))) else (bif Nat.blt k 75 then (bif Nat.blt k 69 then (bif Nat.blt k 66 then (bif Nat.blt k 65 then 0 else 400) else 12) else (bif Nat.blt k 72 then (bif Nat.blt k 70 then 12 else (bif Nat.blt k 71 then 8 else 61)) else (bif Nat.blt k 73 then 192 else (bif Nat.blt k 74 then 192 else 0)))) else (bif Nat.blt k 80 then (bif Nat.blt k 77 then (bif Nat.blt k 76 then 400 else 12) else 12) else (bif Nat.blt k 83 then (bif Nat.blt k 81 then 8 else (bif Nat.blt k 82 then 61 else 192)) else (bif Nat.blt k 84 then 192 else (bif Nat.blt k 85 then 0 else 400))))))) else (bif Nat.blt k 129 then (bif Nat.blt k 107 then (bif Nat.blt k 96 then (bif Nat.blt k 91 then (bif Nat.blt k 88 then 12 else (bif Nat.blt k 89 then 12 else (bif Nat.blt k 90 then 12 else 8))) else (bif Nat.blt k 93 then (bif Nat.blt k 92 then 61 else 192) else (bif Nat.blt k 94 then 192 else (bif Nat.blt k 95 then 0 else 400)))) else (bif Nat.blt k 101 then (bif Nat.blt k 98 then 12 else (bif Nat.blt k 99 then 12 else (bif Nat.blt k 100 then 12 else 8))) else (bif Nat.blt k 104 then (bif Nat.blt k 102 then 61 else 192) else (bif Nat.blt k 105 then 0 else (bif Nat.blt k 106 then 0 else 3))))) else (bif Nat.blt k 118 then (bif Nat.blt k 112 then (bif Nat.blt k 109 then 24 else 40) else (bif Nat.blt k 115 then (bif Nat.blt k 113 then 40 else (bif Nat.blt k 114 then 40 else 10)) else (bif Nat.blt k 116 then 10 else 0))) else (bif Nat.blt k 123 then (bif Nat.blt k 120 then (bif Nat.blt k 119 then 3 else 24) else (bif Nat.blt k 121 then 24 else 40)) else (bif Nat.blt k 126 then 40 else (bif Nat.blt k 127 then 10 else (bif Nat.blt k 128 then 10 else 0)))))) else (bif Nat.blt k 150 then (bif Nat.blt k 139 then (bif Nat.blt k 134 then (bif Nat.blt k 131 then (bif Nat.blt k 130 then 0 else 3) else (bif Nat.blt k 132 then 24 else (bif Nat.blt k 133 then 24 else 40))) else (bif Nat.blt k 136 then 40 else (bif Nat.blt k 137 then 40 else (bif Nat.blt k 138 then 40 else 10)))) else (bif Nat.blt k 144 then (bif Nat.blt k 141 then (bif Nat.blt k 140 then 10 else 0) else (bif Nat.blt k 142 then 0 else (bif Nat.blt k 143 then 3 else 24))) else (bif Nat.blt k 147 then (bif Nat.blt k 145 then 24 else 40) else 40))) else (bif Nat.blt k 161 then (bif Nat.blt k 155 then (bif Nat.blt k 152 then 10 else (bif Nat.blt k 153 then 0 else (bif Nat.blt k 154 then 400 else 2400))) else (bif Nat.blt k 158 then (bif Nat.blt k 156 then 7 else (bif Nat.blt k 157 then 360 else 6)) else (bif Nat.blt k 159 then 16 else (bif Nat.blt k 160 then 16 else 400)))) else (bif Nat.blt k 166 then (bif Nat.blt k 163 then (bif Nat.blt k 162 then 64 else 8) else (bif Nat.blt k 164 then 262 else (bif Nat.blt k 165 then 192 else 512))) else (bif Nat.blt k 169 then (bif Nat.blt k 167 then 512 else (bif Nat.blt k 168 then 512 else 252)) else (bif Nat.blt k 170 then 168 else (bif Nat.blt k 171 then 1048 else 4))))))))
noncomputable def wfR (k b : Nat) : Nat := (bif Nat.blt k 86 then (bif Nat.blt k 43 then (bif Nat.blt k 21 then (bif Nat.blt k 10 then (bif Nat.blt k 5 then (bif Nat.blt k 2 then (bif Nat.blt k 1 then (bif Nat.blt b 9 then (bif Nat.blt b 4 then (bif Nat.blt b 2 then (bif Nat.blt b 1 then 1 else 3) else (bif Nat.blt b 3 then 7 else 8)) else (bif Nat.blt b 6 then (bif Nat.blt b 5 then 9 else 13) else (bif Nat.blt b 7 then 0 else (bif Nat.blt b 8 then 14 else 26)))) else (bif Nat.blt b 13 then (bif Nat.blt b 11 then (bif Nat.blt b 10 then 27 else 28) else (bif Nat.blt b 12 then 32 else 33)) else (bif Nat.blt b 15 then (bif Nat.blt b 14 then 34 else 35) else (bif Nat.blt b 16 then 37 else (bif Nat.blt b 17 then 39 else 40))))) else (bif Nat.blt b 1 then 2 else 0)) else (bif Nat.blt k 3 then 0 else (bif Nat.blt k 4 then (bif Nat.blt b 3 then (bif Nat.blt b 1 then 4 else (bif Nat.blt b 2 then 5 else 6)) else 0) else 0))) else (bif Nat.blt k 7 then 0 else (bif Nat.blt k 8 then 0 else (bif Nat.blt k 9 then 0 else (bif Nat.blt b 1 then 10 else (bif Nat.blt b 2 then 11 else 12)))))) else (bif Nat.blt k 15 then (bif Nat.blt k 12 then 0 else (bif Nat.blt k 13 then 0 else (bif Nat.blt k 14 then 0 else (bif Nat.blt b 6 then (bif Nat.blt b 3 then (bif Nat.blt b 1 then 15 else (bif Nat.blt b 2 then 19 else 20)) else (bif Nat.blt b 4 then 21 else (bif Nat.blt b 5 then 22 else 23))) else (bif Nat.blt b 9 then (bif Nat.blt b 7 then 0 else (bif Nat.blt b 8 then 0 else 24)) else (bif Nat.blt b 10 then 25 else 0)))))) else (bif Nat.blt k 18 then (bif Nat.blt k 16 then (bif Nat.blt b 1 then 16 else (bif Nat.blt b 2 then 17 else 18)) else 0) else 0))) else (bif Nat.blt k 32 then (bif Nat.blt k 26 then 0 else (bif Nat.blt k 29 then (bif Nat.blt k 27 then 0 else (bif Nat.blt k 28 then 0 else (bif Nat.blt b 2 then (bif Nat.blt b 1 then 29 else 30) else (bif Nat.blt b 3 then 31 else 0)))) else 0)) else (bif Nat.blt k 37 then (bif Nat.blt k 34 then 0 else (bif Nat.blt k 35 then 0 else (bif Nat.blt k 36 then (bif Nat.blt b 1 then 36 else 0) else 0))) else (bif Nat.blt k 40 then (bif Nat.blt k 38 then (bif Nat.blt b 1 then 38 else 0) else 0) else (bif Nat.blt k 41 then (bif Nat.blt b 2 then (bif Nat.blt b 1 then 41 else 42) else (bif Nat.blt b 3 then 43 else 0)) else 0))))) else (bif Nat.blt k 64 then (bif Nat.blt k 53 then (bif Nat.blt k 48 then (bif Nat.blt k 45 then (bif Nat.blt k 44 then 0 else (bif Nat.blt b 6 then (bif Nat.blt b 3 then (bif Nat.blt b 1 then 45 else (bif Nat.blt b 2 then 0 else 46)) else (bif Nat.blt b 4 then 47 else (bif Nat.blt b 5 then 48 else 49))) else (bif Nat.blt b 9 then (bif Nat.blt b 7 then 0 else (bif Nat.blt b 8 then 50 else 51)) else (bif Nat.blt b 11 then (bif Nat.blt b 10 then 0 else 52) else (bif Nat.blt b 12 then 53 else 0))))) else 0) else 0) else (bif Nat.blt k 58 then (bif Nat.blt k 55 then (bif Nat.blt k 54 then 0 else (bif Nat.blt b 6 then (bif Nat.blt b 3 then (bif Nat.blt b 1 then 55 else (bif Nat.blt b 2 then 0 else 56)) else (bif Nat.blt b 4 then 57 else (bif Nat.blt b 5 then 58 else 59))) else (bif Nat.blt b 9 then (bif Nat.blt b 7 then 0 else (bif Nat.blt b 8 then 60 else 61)) else (bif Nat.blt b 11 then (bif Nat.blt b 10 then 0 else 62) else (bif Nat.blt b 12 then 63 else 0))))) else 0) else 0)) else (bif Nat.blt k 75 then (bif Nat.blt k 69 then (bif Nat.blt k 66 then (bif Nat.blt k 65 then (bif Nat.blt b 6 then (bif Nat.blt b 3 then (bif Nat.blt b 1 then 65 else (bif Nat.blt b 2 then 0 else 66)) else (bif Nat.blt b 4 then 67 else (bif Nat.blt b 5 then 68 else 69))) else (bif Nat.blt b 9 then (bif Nat.blt b 7 then 0 else (bif Nat.blt b 8 then 70 else 71)) else (bif Nat.blt b 11 then (bif Nat.blt b 10 then 0 else 72) else (bif Nat.blt b 12 then 73 else 0)))) else 0) else 0) else (bif Nat.blt k 72 then 0 else (bif Nat.blt k 73 then 0 else (bif Nat.blt k 74 then 0 else (bif Nat.blt b 6 then (bif Nat.blt b 3 then (bif Nat.blt b 1 then 75 else (bif Nat.blt b 2 then 0 else 76)) else (bif Nat.blt b 4 then 77 else (bif Nat.blt b 5 then 78 else 79))) else (bif Nat.blt b 9 then (bif Nat.blt b 7 then 0 else (bif Nat.blt b 8 then 80 else 81)) else (bif Nat.blt b 11 then (bif Nat.blt b 10 then 0 else 82) else (bif Nat.blt b 12 then 83 else 0)))))))) else (bif Nat.blt k 80 then 0 else (bif Nat.blt k 83 then 0 else (bif Nat.blt k 84 then 0 else (bif Nat.blt k 85 then (bif Nat.blt b 6 then (bif Nat.blt b 3 then (bif Nat.blt b 1 then 85 else (bif Nat.blt b 2 then 0 else 86)) else (bif Nat.blt b 4 then 87 else (bif Nat.blt b 5 then 88 else 89))) else (bif Nat.blt b 9 then (bif Nat.blt b 7 then 0 else (bif Nat.blt b 8 then 90 else 91)) else (bif Nat.blt b 11 then (bif Nat.blt b 10 then 0 else 92) else (bif Nat.blt b 12 then 93 else 0)))) else 0))))))) else (bif Nat.blt k 129 then (bif Nat.blt k 107 then (bif Nat.blt k 96 then (bif Nat.blt k 91 then 0 else (bif Nat.blt k 93 then 0 else (bif Nat.blt k 94 then 0 else (bif Nat.blt k 95 then (bif Nat.blt b 6 then (bif Nat.blt b 3 then (bif Nat.blt b 1 then 95 else (bif Nat.blt b 2 then 0 else 96)) else (bif Nat.blt b 4 then 97 else (bif Nat.blt b 5 then 98 else 99))) else (bif Nat.blt b 9 then (bif Nat.blt b 7 then 0 else (bif Nat.blt b 8 then 100 else 101)) else (bif Nat.blt b 11 then (bif Nat.blt b 10 then 0 else 102) else (bif Nat.blt b 12 then 103 else 0)))) else 0)))) else (bif Nat.blt k 101 then 0 else (bif Nat.blt k 104 then 0 else (bif Nat.blt k 105 then (bif Nat.blt b 6 then (bif Nat.blt b 3 then (bif Nat.blt b 1 then 105 else (bif Nat.blt b 2 then 109 else 110)) else (bif Nat.blt b 4 then 111 else (bif Nat.blt b 5 then 112 else 113))) else (bif Nat.blt b 9 then (bif Nat.blt b 7 then 0 else (bif Nat.blt b 8 then 0 else 114)) else (bif Nat.blt b 10 then 115 else 0))) else (bif Nat.blt k 106 then (bif Nat.blt b 1 then 106 else (bif Nat.blt b 2 then 107 else 108)) else 0))))) else (bif Nat.blt k 118 then (bif Nat.blt k 112 then 0 else (bif Nat.blt k 115 then 0 else (bif Nat.blt k 116 then 0 else (bif Nat.blt k 117 then (bif Nat.blt b 6 then (bif Nat.blt b 3 then (bif Nat.blt b 1 then 117 else (bif Nat.blt b 2 then 121 else 122)) else (bif Nat.blt b 4 then 123 else (bif Nat.blt b 5 then 124 else 125))) else (bif Nat.blt b 9 then (bif Nat.blt b 7 then 0 else (bif Nat.blt b 8 then 0 else 126)) else (bif Nat.blt b 10 then 127 else 0))) else (bif Nat.blt b 1 then 118 else (bif Nat.blt b 2 then 119 else 120)))))) else (bif Nat.blt k 123 then 0 else (bif Nat.blt k 126 then 0 else (bif Nat.blt k 127 then 0 else (bif Nat.blt k 128 then 0 else (bif Nat.blt b 6 then (bif Nat.blt b 3 then (bif Nat.blt b 1 then 129 else (bif Nat.blt b 2 then 133 else 134)) else (bif Nat.blt b 4 then 135 else (bif Nat.blt b 5 then 136 else 137))) else (bif Nat.blt b 9 then (bif Nat.blt b 7 then 0 else (bif Nat.blt b 8 then 0 else 138)) else (bif Nat.blt b 10 then 139 else 0))))))))) else (bif Nat.blt k 150 then (bif Nat.blt k 139 then (bif Nat.blt k 134 then (bif Nat.blt k 131 then (bif Nat.blt k 130 then (bif Nat.blt b 1 then 130 else (bif Nat.blt b 2 then 131 else 132)) else 0) else 0) else 0) else (bif Nat.blt k 144 then (bif Nat.blt k 141 then (bif Nat.blt k 140 then 0 else (bif Nat.blt b 6 then (bif Nat.blt b 3 then (bif Nat.blt b 1 then 141 else (bif Nat.blt b 2 then 145 else 146)) else (bif Nat.blt b 4 then 147 else (bif Nat.blt b 5 then 148 else 149))) else (bif Nat.blt b 9 then (bif Nat.blt b 7 then 0 else (bif Nat.blt b 8 then 0 else 150)) else (bif Nat.blt b 10 then 151 else 0)))) else (bif Nat.blt k 142 then (bif Nat.blt b 1 then 142 else (bif Nat.blt b 2 then 143 else 144)) else 0)) else 0)) else (bif Nat.blt k 161 then (bif Nat.blt k 155 then (bif Nat.blt k 152 then 0 else (bif Nat.blt k 153 then (bif Nat.blt b 19 then (bif Nat.blt b 9 then (bif Nat.blt b 4 then (bif Nat.blt b 2 then (bif Nat.blt b 1 then 153 else 0) else (bif Nat.blt b 3 then 0 else 154)) else (bif Nat.blt b 6 then (bif Nat.blt b 5 then 155 else 156) else (bif Nat.blt b 7 then 157 else 0))) else (bif Nat.blt b 14 then (bif Nat.blt b 11 then (bif Nat.blt b 10 then 0 else 158) else (bif Nat.blt b 12 then 159 else 0)) else 0)) else (bif Nat.blt b 29 then (bif Nat.blt b 24 then (bif Nat.blt b 21 then (bif Nat.blt b 20 then 160 else 0) else (bif Nat.blt b 22 then 161 else (bif Nat.blt b 23 then 0 else 162))) else (bif Nat.blt b 26 then (bif Nat.blt b 25 then 163 else 164) else (bif Nat.blt b 27 then 165 else 0))) else (bif Nat.blt b 34 then (bif Nat.blt b 31 then (bif Nat.blt b 30 then 0 else 166) else (bif Nat.blt b 32 then 167 else (bif Nat.blt b 33 then 168 else 0))) else (bif Nat.blt b 36 then 0 else (bif Nat.blt b 37 then 169 else (bif Nat.blt b 38 then 170 else 171)))))) else 0)) else 0) else 0))))
noncomputable def wrA (k i : Nat) : Option Nat := bif Nat.beq k 13 then (bif Nat.blt i 6 then some (45 + 10 * i) else none) else (bif Nat.blt i 4 then some (105 + 12 * i) else none)
noncomputable def wfk (a b : Nat) : Nat := bif Nat.blt a 12 && Nat.blt b (ri_fn a) then (bif Nat.blt a 6 then (bif Nat.blt a 3 then (bif Nat.blt a 1 then 3 else (bif Nat.blt a 2 then 1 else (bif Nat.blt b 6 then 3 else (bif Nat.blt b 9 then (bif Nat.blt b 7 then 0 else (bif Nat.blt b 8 then 0 else 3)) else (bif Nat.blt b 10 then 3 else 0))))) else (bif Nat.blt a 4 then (bif Nat.blt b 6 then (bif Nat.blt b 3 then (bif Nat.blt b 1 then 3 else (bif Nat.blt b 2 then 0 else 3)) else 3) else (bif Nat.blt b 9 then (bif Nat.blt b 7 then 0 else 3) else (bif Nat.blt b 11 then (bif Nat.blt b 10 then 0 else 3) else (bif Nat.blt b 12 then 3 else 1)))) else (bif Nat.blt a 5 then 0 else (bif Nat.blt b 2 then 3 else (bif Nat.blt b 3 then 3 else 0))))) else (bif Nat.blt a 9 then (bif Nat.blt a 7 then (bif Nat.blt b 2 then 3 else (bif Nat.blt b 3 then 3 else 0)) else (bif Nat.blt b 1 then 3 else 0)) else (bif Nat.blt a 10 then (bif Nat.blt b 3 then 3 else 0) else (bif Nat.blt a 11 then (bif Nat.blt b 9 then (bif Nat.blt b 4 then 3 else (bif Nat.blt b 6 then 3 else (bif Nat.blt b 7 then 0 else 3))) else 3) else (bif Nat.blt b 19 then (bif Nat.blt b 9 then (bif Nat.blt b 4 then (bif Nat.blt b 2 then (bif Nat.blt b 1 then 3 else 0) else (bif Nat.blt b 3 then 0 else 3)) else (bif Nat.blt b 6 then 3 else (bif Nat.blt b 7 then 3 else 0))) else (bif Nat.blt b 14 then (bif Nat.blt b 11 then (bif Nat.blt b 10 then 0 else 3) else (bif Nat.blt b 12 then 3 else 0)) else 0)) else (bif Nat.blt b 29 then (bif Nat.blt b 24 then (bif Nat.blt b 21 then (bif Nat.blt b 20 then 3 else 0) else (bif Nat.blt b 22 then 3 else (bif Nat.blt b 23 then 0 else 3))) else (bif Nat.blt b 26 then 3 else (bif Nat.blt b 27 then 3 else 0))) else (bif Nat.blt b 34 then (bif Nat.blt b 31 then (bif Nat.blt b 30 then 0 else 3) else (bif Nat.blt b 32 then 3 else (bif Nat.blt b 33 then 3 else 0))) else (bif Nat.blt b 36 then 0 else 3)))))))) else 9
noncomputable def wfld (s : wS) (k b : Nat) : Value := if wfk (wkd k) b = 3 then .ref (wfR k b + 1) else if wfk (wkd k) b = 2 then .long (s.2 k b) else .int (s.1 k b)
noncomputable def wCl (k : Nat) : FieldType := bif Nat.beq k 13 then .object RX3 else .object RX2
noncomputable def wcell (s : wS) (k : Nat) : ri_C := if wkd k < 12 then .inr (wkd k, (List.range (ri_fn (wkd k))).map (wfld s k)) else if wkd k = 20 then .inl (.int, (wln k, .inl (s.1 k))) else if wkd k = 21 then .inl (.byte, (wln k, .inl (s.1 k))) else if wkd k = 22 then .inl (.boolean, (wln k, .inl (s.1 k))) else if wkd k = 23 then .inl (.long, (wln k, .inr (.inl (s.2 k)))) else .inl (wCl k, (wln k, .inr (.inr (.inr (.inr (wrA k))))))
noncomputable def wmk (s : wS) : ri_M := (List.range 172).map (wcell s)
theorem wlt {k : Nat} (h : wkd k ≠ 99) : k < 172 := by
  by_cases g : k < 172
  · exact g
  · exfalso
    apply h
    unfold wkd
    rw [show Nat.blt k 172 = false from Bool.eq_false_iff.2 (fun e => g (Nat.le_of_ble_eq_true e))]
    rfl
theorem wget {s : wS} {k : Nat} (h : wkd k ≠ 99) : (wmk s)[k]? = some (wcell s k) := by
  have := wlt h
  simp [wmk, List.getElem?_map, List.getElem?_range, this]
theorem wcell_congr {s s' : wS} {j : Nat} (h1 : s'.1 j = s.1 j) (h2 : s'.2 j = s.2 j) : wcell s' j = wcell s j := by
  have : wfld s' j = wfld s j := by
    funext b
    simp only [wfld, h1, h2]
  simp only [wcell, h1, h2, this]
theorem wset {s s' : wS} {k : Nat} {x : ri_C} (hx : wcell s' k = x) (h1 : ∀ j, j ≠ k → s'.1 j = s.1 j) (h2 : ∀ j, j ≠ k → s'.2 j = s.2 j) : (wmk s).set k x = wmk s' := by
  apply List.ext_getElem?
  intro j
  rw [List.getElem?_set]
  by_cases hj : k = j
  · subst hj
    by_cases hl : k < 172
    · simp [wmk, List.getElem?_map, List.getElem?_range, hl, hx]
    · simp [wmk, hl]
  · rw [if_neg hj]
    by_cases hl : j < 172
    · simp [wmk, List.getElem?_map, List.getElem?_range, hl, wcell_congr (h1 j (Ne.symm hj)) (h2 j (Ne.symm hj))]
    · simp [wmk, hl]
noncomputable def wupI (s : wS) (k b : Nat) (v : Int32) : wS := (fun j => if j = k then upd (s.1 k) b v else s.1 j, s.2)
noncomputable def wupL (s : wS) (k b : Nat) (v : Int64) : wS := (s.1, fun j => if j = k then vp_updL (s.2 k) b v else s.2 j)
theorem wupI_k {s : wS} {k b : Nat} {v : Int32} : (wupI s k b v).1 k = upd (s.1 k) b v := by simp [wupI]
theorem wupI_n {s : wS} {k b j : Nat} {v : Int32} (h : j ≠ k) : (wupI s k b v).1 j = s.1 j := by simp [wupI, h]
theorem wupL_k {s : wS} {k b : Nat} {v : Int64} : (wupL s k b v).2 k = vp_updL (s.2 k) b v := by simp [wupL]
theorem wupL_n {s : wS} {k b j : Nat} {v : Int64} (h : j ≠ k) : (wupL s k b v).2 j = s.2 j := by simp [wupL, h]
theorem wfk_b {a b : Nat} (h : wfk a b ≠ 9) : a < 12 ∧ b < ri_fn a := by
  unfold wfk at h
  cases e : (Nat.blt a 12 && Nat.blt b (ri_fn a))
  · rw [e] at h
    exact absurd rfl h
  · simpa [Nat.blt_eq] using e
theorem wcell_o {s : wS} {k a : Nat} (h : wkd k = a) (ha : a < 12) : wcell s k = .inr (a, (List.range (ri_fn a)).map (wfld s k)) := by
  subst h
  unfold wcell
  rw [if_pos ha]
theorem wget_o {s : wS} {k a : Nat} (h : wkd k = a) (ha : a < 12) : (wmk s)[k]? = some (.inr (a, (List.range (ri_fn a)).map (wfld s k))) := by
  rw [wget (by omega), wcell_o h ha]
theorem wfs {s : wS} {k n b : Nat} (h : b < n) : ((List.range n).map (wfld s k))[b]? = some (wfld s k b) := by
  simp [List.getElem?_map, List.getElem?_range, h]
theorem wget_I {s : wS} {k : Nat} (h : wkd k = 20) : (wmk s)[k]? = some (.inl (.int, (wln k, .inl (s.1 k)))) := by
  rw [wget (by omega)]
  simp [wcell, h]
theorem wget_B {s : wS} {k : Nat} (h : wkd k = 21) : (wmk s)[k]? = some (.inl (.byte, (wln k, .inl (s.1 k)))) := by
  rw [wget (by omega)]
  simp [wcell, h]
theorem wget_Z {s : wS} {k : Nat} (h : wkd k = 22) : (wmk s)[k]? = some (.inl (.boolean, (wln k, .inl (s.1 k)))) := by
  rw [wget (by omega)]
  simp [wcell, h]
theorem wget_J {s : wS} {k : Nat} (h : wkd k = 23) : (wmk s)[k]? = some (.inl (.long, (wln k, .inr (.inl (s.2 k))))) := by
  rw [wget (by omega)]
  simp [wcell, h]
theorem wget_A {s : wS} {k : Nat} (h : wkd k = 24 ∨ wkd k = 25) : (wmk s)[k]? = some (.inl (wCl k, (wln k, .inr (.inr (.inr (.inr (wrA k))))))) := by
  rw [wget (by omega)]
  rcases h with h | h <;> simp [wcell, h]
theorem wsetI {s : wS} {k a b : Nat} {v : Int32} (h : wkd k = a) (hf : wfk a b < 2) : (wmk s).set k (.inr (a, ((List.range (ri_fn a)).map (wfld s k)).set b (.int v))) = wmk (wupI s k b v) := by
  have hb := wfk_b (a := a) (b := b) (by omega)
  refine wset ?_ (fun j hj => wupI_n hj) (fun _ _ => rfl)
  rw [wcell_o h hb.1]
  congr 2
  apply List.ext_getElem?
  intro j
  rw [List.getElem?_set]
  by_cases hj : b = j
  · subst hj
    rw [if_pos rfl, if_pos (by simpa using hb.2), wfs hb.2]
    simp only [wfld, h, wupI_k, upd, if_true]
    rw [if_neg (by omega), if_neg (by omega)]
  · rw [if_neg hj]
    by_cases hl : j < ri_fn a
    · rw [wfs hl, wfs hl]
      simp only [wfld, wupI_k, upd, if_neg (Ne.symm hj)]
      rfl
    · simp [hl]
theorem wsetL {s : wS} {k a b : Nat} {v : Int64} (h : wkd k = a) (hf : wfk a b = 2) : (wmk s).set k (.inr (a, ((List.range (ri_fn a)).map (wfld s k)).set b (.long v))) = wmk (wupL s k b v) := by
  have hb := wfk_b (a := a) (b := b) (by omega)
  refine wset ?_ (fun _ _ => rfl) (fun j hj => wupL_n hj)
  rw [wcell_o h hb.1]
  congr 2
  apply List.ext_getElem?
  intro j
  rw [List.getElem?_set]
  by_cases hj : b = j
  · subst hj
    rw [if_pos rfl, if_pos (by simpa using hb.2), wfs hb.2]
    simp only [wfld, h, hf, wupL_k, vp_updL, if_true]
    rfl
  · rw [if_neg hj]
    by_cases hl : j < ri_fn a
    · rw [wfs hl, wfs hl]
      simp only [wfld, wupL_k, vp_updL, if_neg (Ne.symm hj)]
      rfl
    · simp [hl]
theorem wsetAI {s : wS} {k i : Nat} {v : Int32} (h : wkd k = 20) : (wmk s).set k (.inl (.int, (wln k, .inl (upd (s.1 k) i v)))) = wmk (wupI s k i v) := by
  refine wset ?_ (fun j hj => wupI_n hj) (fun _ _ => rfl)
  simp [wcell, h, wupI_k]
theorem wsetAB {s : wS} {k i : Nat} {v : Int32} (h : wkd k = 21) : (wmk s).set k (.inl (.byte, (wln k, .inl (upd (s.1 k) i v)))) = wmk (wupI s k i v) := by
  refine wset ?_ (fun j hj => wupI_n hj) (fun _ _ => rfl)
  simp [wcell, h, wupI_k]
theorem wsetAZ {s : wS} {k i : Nat} {v : Int32} (h : wkd k = 22) : (wmk s).set k (.inl (.boolean, (wln k, .inl (upd (s.1 k) i v)))) = wmk (wupI s k i v) := by
  refine wset ?_ (fun j hj => wupI_n hj) (fun _ _ => rfl)
  simp [wcell, h, wupI_k]
theorem wsetAJ {s : wS} {k i : Nat} {v : Int64} (h : wkd k = 23) : (wmk s).set k (.inl (.long, (wln k, .inr (.inl (vp_updL (s.2 k) i v))))) = wmk (wupL s k i v) := by
  refine wset ?_ (fun _ _ => rfl) (fun j hj => wupL_n hj)
  simp [wcell, h, wupL_k]
/-- the operations that can fail -/
noncomputable def wldI (s : wS) (k n : Nat) (i : Int32) : Option Int32 := if i < 0 ∨ n ≤ i.toNatClampNeg then none else some (s.1 k i.toNatClampNeg)
noncomputable def wldL (s : wS) (k n : Nat) (i : Int32) : Option Int64 := if i < 0 ∨ n ≤ i.toNatClampNeg then none else some (s.2 k i.toNatClampNeg)
noncomputable def wldR (k n : Nat) (i : Int32) : Option Nat := if i < 0 ∨ n ≤ i.toNatClampNeg then none else (wrA k i.toNatClampNeg).map Nat.pred
noncomputable def wstI (s : wS) (k n : Nat) (i v : Int32) : Option wS := if i < 0 ∨ n ≤ i.toNatClampNeg then none else some (wupI s k i.toNatClampNeg v)
noncomputable def wstB (s : wS) (k n : Nat) (i v : Int32) : Option wS := if i < 0 ∨ n ≤ i.toNatClampNeg then none else some (wupI s k i.toNatClampNeg (vp_nar .byte v))
noncomputable def wstZ (s : wS) (k n : Nat) (i v : Int32) : Option wS := if i < 0 ∨ n ≤ i.toNatClampNeg then none else some (wupI s k i.toNatClampNeg (vp_nar .boolean v))
noncomputable def wstL (s : wS) (k n : Nat) (i : Int32) (v : Int64) : Option wS := if i < 0 ∨ n ≤ i.toNatClampNeg then none else some (wupL s k i.toNatClampNeg v)
noncomputable def wpfI (s : wS) (k b : Nat) (v : Int32) : Option wS := some (wupI s k b v)
noncomputable def wpfL (s : wS) (k b : Nat) (v : Int64) : Option wS := some (wupL s k b v)
noncomputable def wpfZ (s : wS) (k b : Nat) (v : Int32) : Option wS := if v = 0 ∨ v = 1 then some (wupI s k b v) else none
noncomputable def wdvI (x y : Int32) : Option Int32 := if y = 0 then none else some (x / y)
noncomputable def wrmI (x y : Int32) : Option Int32 := if y = 0 then none else some (x - x / y * y)
noncomputable def wdvL (x y : Int64) : Option Int64 := if y = 0 then none else some (x / y)
noncomputable def wrmL (x y : Int64) : Option Int64 := if y = 0 then none else some (x - x / y * y)
noncomputable def wcpI (s : wS) (k n k1 n1 : Nat) (sp dp m : Int32) : Option wS := if ¬ sp < 0 ∧ ¬ dp < 0 ∧ ¬ m < 0 ∧ sp.toNatClampNeg + m.toNatClampNeg ≤ n ∧ dp.toNatClampNeg + m.toNatClampNeg ≤ n1 then some (fun j => if j = k1 then va_cpy (s.1 k) (s.1 k1) sp.toNatClampNeg dp.toNatClampNeg m.toNatClampNeg else s.1 j, s.2) else none
noncomputable def wrtZ (v : Int32) : Option Int32 := if v = 0 ∨ v = 1 then some v else none
noncomputable def wmin (x y : Int32) : Int32 := if y < x then y else x
noncomputable def wmax (x y : Int32) : Int32 := if x < y then y else x
noncomputable def wabs (x : Int32) : Int32 := if 0 ≤ x then x else 0 - x
noncomputable def wrv (o : Option Nat) : Value := match o with
  | none => .null
  | some k => .ref (k + 1)
noncomputable def wFuel : Nat := 1099511627776
theorem gb {α β : Type} {x : Option α} {f : α → Option β} {r : β} (h : x.bind f = some r) : ∃ a, x = some a ∧ f a = some r := by
  cases x with
  | none => exact absurd h (by simp)
  | some a => exact ⟨a, rfl, h⟩
theorem gif {α : Type} {c : Prop} [Decidable c] {a b x : α} (h : (if c then a else b) = x) : (c ∧ a = x) ∨ (¬ c ∧ b = x) := by
  by_cases g : c
  · rw [if_pos g] at h; exact .inl ⟨g, h⟩
  · rw [if_neg g] at h; exact .inr ⟨g, h⟩
theorem gel {α β : Type} {o : Option α} {a : β} {f : α → β} {x : β} (h : o.elim a f = x) : (o = none ∧ a = x) ∨ ∃ k, o = some k ∧ f k = x := by
  cases o with
  | none => exact .inl ⟨rfl, h⟩
  | some k => exact .inr ⟨k, rfl, h⟩
/-- a run from a place, at any depth from d on, with fuel enough -/
noncomputable def gRun (d m pc : Nat) (L : ri_L) (st : List Value) (M : ri_M) (r : ri_R) : Prop := ∃ N, ∀ fuel, N ≤ fuel → ∀ n, N ≤ n → ∀ d', d ≤ d' → ri_run none (ri_call ri_tc ri_ml ri_rt ri_rc fuel d') ri_rc (ri_tc m) (ri_rt m) n pc L st M 0 0 = some r
/-- a call -/
noncomputable def gEv (d m : Nat) (as : List Value) (M : ri_M) (r : ri_R) : Prop := ∃ N, ∀ fuel, N ≤ fuel → ∀ d', d ≤ d' → ri_call ri_tc ri_ml ri_rt ri_rc fuel d' m as M = some r
variable {d m pc : Nat} {L L1 : ri_L} {st st1 : List Value} {M M1 : ri_M} {r : ri_R}
theorem gEv_of {as : List Value} (he : ri_ent as (ri_ml m) = some L) (h : gRun d m 0 L [] M r) : gEv (d + 1) m as M r := by
  obtain ⟨N, h⟩ := h
  refine ⟨N, fun fuel hf d' hd => ?_⟩
  obtain ⟨e, rfl⟩ : ∃ e, d' = e + 1 := ⟨d' - 1, by omega⟩
  show (match ri_ent as (ri_ml m) with
    | some L => ri_run none (ri_call ri_tc ri_ml ri_rt ri_rc fuel e) ri_rc (ri_tc m) (ri_rt m) fuel 0 L [] M 0 0
    | none => none) = some r
  rw [he]
  exact h fuel hf fuel hf e (by omega)
theorem gR_go (k : Nat) {pc1 : Nat} (h : ∀ call n, ri_run none call ri_rc (ri_tc m) (ri_rt m) (n + k) pc L st M 0 0 = ri_run none call ri_rc (ri_tc m) (ri_rt m) n pc1 L1 st1 M1 0 0) (g : gRun d m pc1 L1 st1 M1 r) : gRun d m pc L st M r := by
  obtain ⟨N, g⟩ := g
  refine ⟨N + k, fun fuel hf n hn d' hd => ?_⟩
  obtain ⟨e, rfl⟩ : ∃ e, n = e + k := ⟨n - k, by omega⟩
  rw [h]
  exact g fuel (by omega) e (by omega) d' hd
theorem gR_ret (k : Nat) (h : ∀ call n, ri_run none call ri_rc (ri_tc m) (ri_rt m) (n + k) pc L st M 0 0 = some r) : gRun d m pc L st M r := by
  refine ⟨k, fun fuel hf n hn d' hd => ?_⟩
  obtain ⟨e, rfl⟩ : ∃ e, n = e + k := ⟨n - k, by omega⟩
  exact h _ e
theorem gR_st {ins : Instr} {len a b c pc1 : Nat} (hc : ri_tc m pc = some (ins, len, a, b, c)) (h : ∀ call, ri_step none call ri_rc (ri_rt m) (ins, len, a, b, c) pc L st M 0 0 = some (.inl (pc1, L1, st1, M1, 0, 0))) (g : gRun d m pc1 L1 st1 M1 r) : gRun d m pc L st M r := by
  refine gR_go 1 (fun call n => ?_) g
  show (match ri_tc m pc with
    | none => none
    | some j => match ri_step none call ri_rc (ri_rt m) j pc L st M 0 0 with
      | some (.inl (pc1, L1, st1, M1, c1, s1)) => ri_run none call ri_rc (ri_tc m) (ri_rt m) n pc1 L1 st1 M1 c1 s1
      | some (.inr r) => some r
      | none => none) = _
  rw [hc]
  simp only [h]
theorem gR_rs {ins : Instr} {len a b c : Nat} (hc : ri_tc m pc = some (ins, len, a, b, c)) (h : ∀ call, ri_step none call ri_rc (ri_rt m) (ins, len, a, b, c) pc L st M 0 0 = some (.inr r)) : gRun d m pc L st M r := by
  refine gR_ret 1 (fun call n => ?_)
  show (match ri_tc m pc with
    | none => none
    | some j => match ri_step none call ri_rc (ri_rt m) j pc L st M 0 0 with
      | some (.inl (pc1, L1, st1, M1, c1, s1)) => ri_run none call ri_rc (ri_tc m) (ri_rt m) n pc1 L1 st1 M1 c1 s1
      | some (.inr r) => some r
      | none => none) = _
  rw [hc]
  simp only [h]
theorem gR_ca {ins : Instr} {len a b c pc1 a' d1 : Nat} {as : List Value} {v : Option Value} (he : gEv d1 a' as M (v, M1, 0, 0)) (hd : d1 ≤ d) (hc : ri_tc m pc = some (ins, len, a, b, c)) (h : ∀ call : ri_Ca, call a' as M = some (v, M1, 0, 0) → ri_step none call ri_rc (ri_rt m) (ins, len, a, b, c) pc L st M 0 0 = some (.inl (pc1, L1, st1, M1, 0, 0))) (g : gRun d m pc1 L1 st1 M1 r) : gRun d m pc L st M r := by
  obtain ⟨N, he⟩ := he
  obtain ⟨N1, g⟩ := g
  refine ⟨N + N1 + 1, fun fuel hf n hn d' hd' => ?_⟩
  obtain ⟨e, rfl⟩ : ∃ e, n = e + 1 := ⟨n - 1, by omega⟩
  show (match ri_tc m pc with
    | none => none
    | some j => match ri_step none (ri_call ri_tc ri_ml ri_rt ri_rc fuel d') ri_rc (ri_rt m) j pc L st M 0 0 with
      | some (.inl (pc1, L1, st1, M1, c1, s1)) => ri_run none (ri_call ri_tc ri_ml ri_rt ri_rc fuel d') ri_rc (ri_tc m) (ri_rt m) e pc1 L1 st1 M1 c1 s1
      | some (.inr r) => some r
      | none => none) = _
  rw [hc]
  simp only [h _ (he fuel (by omega) d' (by omega))]
  exact g fuel (by omega) e (by omega) d' hd'
theorem gR_eqM (e : M = M1) (g : gRun d m pc L st M1 r) : gRun d m pc L st M r := e ▸ g
end
section
/-! The rules of a run over wmk s, one for each kind of instruction. -/
variable {d m pc len a b c d1 : Nat} {L : ri_L} {st rr as : List Value} {M M1 : ri_M} {s s' : wS} {r : ri_R} {off : Int}
theorem gi1 {α : Type} {x y : α} (h : some x = some y) : x = y := Option.some.inj h
theorem gi2 {α β : Type} {x y : α} {z u : β} (h : some (x, z) = some (y, u)) : x = y ∧ z = u := Prod.mk.inj (Option.some.inj h)
theorem gor {a b : Bool} (h : (a || b) = true) : a = true ∨ b = true := by
  cases a
  · exact .inr h
  · exact .inl rfl
theorem gand {a b : Bool} (h : (a && b) = true) : a = true ∧ b = true := by
  cases a
  · cases h
  · exact ⟨rfl, h⟩
theorem gl0 {x : Int32} : ∀ n ∈ ([] : List Int32), ¬ x = n := fun _ h => absurd h List.not_mem_nil
theorem gl1 {x n : Int32} {l : List Int32} (h : ¬ x = n) (g : ∀ n ∈ l, ¬ x = n) : ∀ k ∈ n :: l, ¬ x = k := fun k hk => by
  rcases List.mem_cons.1 hk with e | e
  · exact e ▸ h
  · exact g k e
theorem glc_eq {x y : Int64} : lg_cmp x y = 0 ↔ x = y := by
  unfold lg_cmp
  by_cases h : x > y
  · rw [if_pos h]
    refine ⟨fun e => absurd e (by decide), fun e => ?_⟩
    subst e
    exact absurd h (by simp)
  · rw [if_neg h]
    by_cases g : x = y
    · simp [g]
    · rw [if_neg g]
      exact ⟨fun e => absurd e (by decide), fun e => absurd e g⟩
theorem gR_ic_eq_j {x y : Int32} {t : Nat} (hc : ri_tc m pc = some (.if_icmp .eq off, len, a, b, c)) (h : x = y) (ht : (pc : Int) + off = Int.ofNat t) (g : gRun d m t L st M r) : gRun d m pc L (.int y :: .int x :: st) M r := gR_st hc (fun call => by
  show (if x = y then ri_jmp off pc L st M 0 0 else some (.inl (pc + 3, L, st, M, 0, 0))) = _
  rw [if_pos h]
  exact ri_jmp_ok ht) g
theorem gR_ic_eq_f {x y : Int32} (hc : ri_tc m pc = some (.if_icmp .eq off, len, a, b, c)) (h : ¬ x = y) (g : gRun d m (pc + 3) L st M r) : gRun d m pc L (.int y :: .int x :: st) M r := gR_st hc (fun call => by
  show (if x = y then ri_jmp off pc L st M 0 0 else some (.inl (pc + 3, L, st, M, 0, 0))) = _
  rw [if_neg h]) g
theorem gR_ic_ne_j {x y : Int32} {t : Nat} (hc : ri_tc m pc = some (.if_icmp .ne off, len, a, b, c)) (h : ¬ x = y) (ht : (pc : Int) + off = Int.ofNat t) (g : gRun d m t L st M r) : gRun d m pc L (.int y :: .int x :: st) M r := gR_st hc (fun call => by
  show (if x = y then some (.inl (pc + 3, L, st, M, 0, 0)) else ri_jmp off pc L st M 0 0) = _
  rw [if_neg h]
  exact ri_jmp_ok ht) g
theorem gR_ic_ne_f {x y : Int32} (hc : ri_tc m pc = some (.if_icmp .ne off, len, a, b, c)) (h : x = y) (g : gRun d m (pc + 3) L st M r) : gRun d m pc L (.int y :: .int x :: st) M r := gR_st hc (fun call => by
  show (if x = y then some (.inl (pc + 3, L, st, M, 0, 0)) else ri_jmp off pc L st M 0 0) = _
  rw [if_pos h]) g
theorem gR_ic_lt_j {x y : Int32} {t : Nat} (hc : ri_tc m pc = some (.if_icmp .lt off, len, a, b, c)) (h : x < y) (ht : (pc : Int) + off = Int.ofNat t) (g : gRun d m t L st M r) : gRun d m pc L (.int y :: .int x :: st) M r := gR_st hc (fun call => by
  show (if x < y then ri_jmp off pc L st M 0 0 else some (.inl (pc + 3, L, st, M, 0, 0))) = _
  rw [if_pos h]
  exact ri_jmp_ok ht) g
theorem gR_ic_lt_f {x y : Int32} (hc : ri_tc m pc = some (.if_icmp .lt off, len, a, b, c)) (h : ¬ x < y) (g : gRun d m (pc + 3) L st M r) : gRun d m pc L (.int y :: .int x :: st) M r := gR_st hc (fun call => by
  show (if x < y then ri_jmp off pc L st M 0 0 else some (.inl (pc + 3, L, st, M, 0, 0))) = _
  rw [if_neg h]) g
theorem gR_ic_gt_j {x y : Int32} {t : Nat} (hc : ri_tc m pc = some (.if_icmp .gt off, len, a, b, c)) (h : y < x) (ht : (pc : Int) + off = Int.ofNat t) (g : gRun d m t L st M r) : gRun d m pc L (.int y :: .int x :: st) M r := gR_st hc (fun call => by
  show (if y < x then ri_jmp off pc L st M 0 0 else some (.inl (pc + 3, L, st, M, 0, 0))) = _
  rw [if_pos h]
  exact ri_jmp_ok ht) g
theorem gR_ic_gt_f {x y : Int32} (hc : ri_tc m pc = some (.if_icmp .gt off, len, a, b, c)) (h : ¬ y < x) (g : gRun d m (pc + 3) L st M r) : gRun d m pc L (.int y :: .int x :: st) M r := gR_st hc (fun call => by
  show (if y < x then ri_jmp off pc L st M 0 0 else some (.inl (pc + 3, L, st, M, 0, 0))) = _
  rw [if_neg h]) g
theorem gR_ic_ge_j {x y : Int32} {t : Nat} (hc : ri_tc m pc = some (.if_icmp .ge off, len, a, b, c)) (h : ¬ x < y) (ht : (pc : Int) + off = Int.ofNat t) (g : gRun d m t L st M r) : gRun d m pc L (.int y :: .int x :: st) M r := gR_st hc (fun call => by
  show (if y ≤ x then ri_jmp off pc L st M 0 0 else some (.inl (pc + 3, L, st, M, 0, 0))) = _
  rw [if_pos (Int32.not_lt.1 h)]
  exact ri_jmp_ok ht) g
theorem gR_ic_ge_f {x y : Int32} (hc : ri_tc m pc = some (.if_icmp .ge off, len, a, b, c)) (h : x < y) (g : gRun d m (pc + 3) L st M r) : gRun d m pc L (.int y :: .int x :: st) M r := gR_st hc (fun call => by
  show (if y ≤ x then ri_jmp off pc L st M 0 0 else some (.inl (pc + 3, L, st, M, 0, 0))) = _
  rw [if_neg (Int32.not_le.2 h)]) g
theorem gR_ic_le_j {x y : Int32} {t : Nat} (hc : ri_tc m pc = some (.if_icmp .le off, len, a, b, c)) (h : ¬ y < x) (ht : (pc : Int) + off = Int.ofNat t) (g : gRun d m t L st M r) : gRun d m pc L (.int y :: .int x :: st) M r := gR_st hc (fun call => by
  show (if x ≤ y then ri_jmp off pc L st M 0 0 else some (.inl (pc + 3, L, st, M, 0, 0))) = _
  rw [if_pos (Int32.not_lt.1 h)]
  exact ri_jmp_ok ht) g
theorem gR_ic_le_f {x y : Int32} (hc : ri_tc m pc = some (.if_icmp .le off, len, a, b, c)) (h : y < x) (g : gRun d m (pc + 3) L st M r) : gRun d m pc L (.int y :: .int x :: st) M r := gR_st hc (fun call => by
  show (if x ≤ y then ri_jmp off pc L st M 0 0 else some (.inl (pc + 3, L, st, M, 0, 0))) = _
  rw [if_neg (Int32.not_le.2 h)]) g
theorem gR_iz_eq_j {x : Int32} {t : Nat} (hc : ri_tc m pc = some (.ifCond .eq off, len, a, b, c)) (h : x = (0 : Int32)) (ht : (pc : Int) + off = Int.ofNat t) (g : gRun d m t L st M r) : gRun d m pc L (.int x :: st) M r := gR_st hc (fun call => by
  show (if x = (0 : Int32) then ri_jmp off pc L st M 0 0 else some (.inl (pc + 3, L, st, M, 0, 0))) = _
  rw [if_pos h]
  exact ri_jmp_ok ht) g
theorem gR_iz_eq_f {x : Int32} (hc : ri_tc m pc = some (.ifCond .eq off, len, a, b, c)) (h : ¬ x = (0 : Int32)) (g : gRun d m (pc + 3) L st M r) : gRun d m pc L (.int x :: st) M r := gR_st hc (fun call => by
  show (if x = (0 : Int32) then ri_jmp off pc L st M 0 0 else some (.inl (pc + 3, L, st, M, 0, 0))) = _
  rw [if_neg h]) g
theorem gR_iz_ne_j {x : Int32} {t : Nat} (hc : ri_tc m pc = some (.ifCond .ne off, len, a, b, c)) (h : ¬ x = (0 : Int32)) (ht : (pc : Int) + off = Int.ofNat t) (g : gRun d m t L st M r) : gRun d m pc L (.int x :: st) M r := gR_st hc (fun call => by
  show (if x = (0 : Int32) then some (.inl (pc + 3, L, st, M, 0, 0)) else ri_jmp off pc L st M 0 0) = _
  rw [if_neg h]
  exact ri_jmp_ok ht) g
theorem gR_iz_ne_f {x : Int32} (hc : ri_tc m pc = some (.ifCond .ne off, len, a, b, c)) (h : x = (0 : Int32)) (g : gRun d m (pc + 3) L st M r) : gRun d m pc L (.int x :: st) M r := gR_st hc (fun call => by
  show (if x = (0 : Int32) then some (.inl (pc + 3, L, st, M, 0, 0)) else ri_jmp off pc L st M 0 0) = _
  rw [if_pos h]) g
theorem gR_iz_lt_j {x : Int32} {t : Nat} (hc : ri_tc m pc = some (.ifCond .lt off, len, a, b, c)) (h : x < (0 : Int32)) (ht : (pc : Int) + off = Int.ofNat t) (g : gRun d m t L st M r) : gRun d m pc L (.int x :: st) M r := gR_st hc (fun call => by
  show (if x < (0 : Int32) then ri_jmp off pc L st M 0 0 else some (.inl (pc + 3, L, st, M, 0, 0))) = _
  rw [if_pos h]
  exact ri_jmp_ok ht) g
theorem gR_iz_lt_f {x : Int32} (hc : ri_tc m pc = some (.ifCond .lt off, len, a, b, c)) (h : ¬ x < (0 : Int32)) (g : gRun d m (pc + 3) L st M r) : gRun d m pc L (.int x :: st) M r := gR_st hc (fun call => by
  show (if x < (0 : Int32) then ri_jmp off pc L st M 0 0 else some (.inl (pc + 3, L, st, M, 0, 0))) = _
  rw [if_neg h]) g
theorem gR_iz_gt_j {x : Int32} {t : Nat} (hc : ri_tc m pc = some (.ifCond .gt off, len, a, b, c)) (h : (0 : Int32) < x) (ht : (pc : Int) + off = Int.ofNat t) (g : gRun d m t L st M r) : gRun d m pc L (.int x :: st) M r := gR_st hc (fun call => by
  show (if (0 : Int32) < x then ri_jmp off pc L st M 0 0 else some (.inl (pc + 3, L, st, M, 0, 0))) = _
  rw [if_pos h]
  exact ri_jmp_ok ht) g
theorem gR_iz_gt_f {x : Int32} (hc : ri_tc m pc = some (.ifCond .gt off, len, a, b, c)) (h : ¬ (0 : Int32) < x) (g : gRun d m (pc + 3) L st M r) : gRun d m pc L (.int x :: st) M r := gR_st hc (fun call => by
  show (if (0 : Int32) < x then ri_jmp off pc L st M 0 0 else some (.inl (pc + 3, L, st, M, 0, 0))) = _
  rw [if_neg h]) g
theorem gR_iz_ge_j {x : Int32} {t : Nat} (hc : ri_tc m pc = some (.ifCond .ge off, len, a, b, c)) (h : ¬ x < (0 : Int32)) (ht : (pc : Int) + off = Int.ofNat t) (g : gRun d m t L st M r) : gRun d m pc L (.int x :: st) M r := gR_st hc (fun call => by
  show (if (0 : Int32) ≤ x then ri_jmp off pc L st M 0 0 else some (.inl (pc + 3, L, st, M, 0, 0))) = _
  rw [if_pos (Int32.not_lt.1 h)]
  exact ri_jmp_ok ht) g
theorem gR_iz_ge_f {x : Int32} (hc : ri_tc m pc = some (.ifCond .ge off, len, a, b, c)) (h : x < (0 : Int32)) (g : gRun d m (pc + 3) L st M r) : gRun d m pc L (.int x :: st) M r := gR_st hc (fun call => by
  show (if (0 : Int32) ≤ x then ri_jmp off pc L st M 0 0 else some (.inl (pc + 3, L, st, M, 0, 0))) = _
  rw [if_neg (Int32.not_le.2 h)]) g
theorem gR_iz_le_j {x : Int32} {t : Nat} (hc : ri_tc m pc = some (.ifCond .le off, len, a, b, c)) (h : ¬ (0 : Int32) < x) (ht : (pc : Int) + off = Int.ofNat t) (g : gRun d m t L st M r) : gRun d m pc L (.int x :: st) M r := gR_st hc (fun call => by
  show (if x ≤ (0 : Int32) then ri_jmp off pc L st M 0 0 else some (.inl (pc + 3, L, st, M, 0, 0))) = _
  rw [if_pos (Int32.not_lt.1 h)]
  exact ri_jmp_ok ht) g
theorem gR_iz_le_f {x : Int32} (hc : ri_tc m pc = some (.ifCond .le off, len, a, b, c)) (h : (0 : Int32) < x) (g : gRun d m (pc + 3) L st M r) : gRun d m pc L (.int x :: st) M r := gR_st hc (fun call => by
  show (if x ≤ (0 : Int32) then ri_jmp off pc L st M 0 0 else some (.inl (pc + 3, L, st, M, 0, 0))) = _
  rw [if_neg (Int32.not_le.2 h)]) g
theorem gR_lc_eq_j {x y : Int64} {t : Nat} (hc : ri_tc m pc = some (.ifCond .eq off, len, a, b, c)) (h : x = y) (ht : (pc : Int) + off = Int.ofNat t) (g : gRun d m t L st M r) : gRun d m pc L (.int (lg_cmp x y) :: st) M r := gR_iz_eq_j hc (glc_eq.2 h) ht g
theorem gR_lc_eq_f {x y : Int64} (hc : ri_tc m pc = some (.ifCond .eq off, len, a, b, c)) (h : ¬ x = y) (g : gRun d m (pc + 3) L st M r) : gRun d m pc L (.int (lg_cmp x y) :: st) M r := gR_iz_eq_f hc (fun e => h (glc_eq.1 e)) g
theorem gR_lc_ne_j {x y : Int64} {t : Nat} (hc : ri_tc m pc = some (.ifCond .ne off, len, a, b, c)) (h : ¬ x = y) (ht : (pc : Int) + off = Int.ofNat t) (g : gRun d m t L st M r) : gRun d m pc L (.int (lg_cmp x y) :: st) M r := gR_iz_ne_j hc (fun e => h (glc_eq.1 e)) ht g
theorem gR_lc_ne_f {x y : Int64} (hc : ri_tc m pc = some (.ifCond .ne off, len, a, b, c)) (h : x = y) (g : gRun d m (pc + 3) L st M r) : gRun d m pc L (.int (lg_cmp x y) :: st) M r := gR_iz_ne_f hc (glc_eq.2 h) g
theorem gR_lc_lt_j {x y : Int64} {t : Nat} (hc : ri_tc m pc = some (.ifCond .lt off, len, a, b, c)) (h : x < y) (ht : (pc : Int) + off = Int.ofNat t) (g : gRun d m t L st M r) : gRun d m pc L (.int (lg_cmp x y) :: st) M r := gR_iz_lt_j hc (ri_lg_lt.2 h) ht g
theorem gR_lc_lt_f {x y : Int64} (hc : ri_tc m pc = some (.ifCond .lt off, len, a, b, c)) (h : ¬ x < y) (g : gRun d m (pc + 3) L st M r) : gRun d m pc L (.int (lg_cmp x y) :: st) M r := gR_iz_lt_f hc (fun e => h (ri_lg_lt.1 e)) g
theorem gR_lc_ge_j {x y : Int64} {t : Nat} (hc : ri_tc m pc = some (.ifCond .ge off, len, a, b, c)) (h : ¬ x < y) (ht : (pc : Int) + off = Int.ofNat t) (g : gRun d m t L st M r) : gRun d m pc L (.int (lg_cmp x y) :: st) M r := gR_iz_ge_j hc (fun e => h (ri_lg_lt.1 e)) ht g
theorem gR_lc_ge_f {x y : Int64} (hc : ri_tc m pc = some (.ifCond .ge off, len, a, b, c)) (h : x < y) (g : gRun d m (pc + 3) L st M r) : gRun d m pc L (.int (lg_cmp x y) :: st) M r := gR_iz_ge_f hc (ri_lg_lt.2 h) g
theorem gR_lc_gt_j {x y : Int64} {t : Nat} (hc : ri_tc m pc = some (.ifCond .gt off, len, a, b, c)) (h : y < x) (ht : (pc : Int) + off = Int.ofNat t) (g : gRun d m t L st M r) : gRun d m pc L (.int (lg_cmp x y) :: st) M r := gR_iz_gt_j hc (ri_lg_gt.2 h) ht g
theorem gR_lc_gt_f {x y : Int64} (hc : ri_tc m pc = some (.ifCond .gt off, len, a, b, c)) (h : ¬ y < x) (g : gRun d m (pc + 3) L st M r) : gRun d m pc L (.int (lg_cmp x y) :: st) M r := gR_iz_gt_f hc (fun e => h (ri_lg_gt.1 e)) g
theorem gR_lc_le_j {x y : Int64} {t : Nat} (hc : ri_tc m pc = some (.ifCond .le off, len, a, b, c)) (h : ¬ y < x) (ht : (pc : Int) + off = Int.ofNat t) (g : gRun d m t L st M r) : gRun d m pc L (.int (lg_cmp x y) :: st) M r := gR_iz_le_j hc (fun e => h (ri_lg_gt.1 e)) ht g
theorem gR_lc_le_f {x y : Int64} (hc : ri_tc m pc = some (.ifCond .le off, len, a, b, c)) (h : y < x) (g : gRun d m (pc + 3) L st M r) : gRun d m pc L (.int (lg_cmp x y) :: st) M r := gR_iz_le_f hc (ri_lg_gt.2 h) g
theorem gR_ifnull_n_j {t : Nat} (hc : ri_tc m pc = some (.ifnull off, len, a, b, c)) (ht : (pc : Int) + off = Int.ofNat t) (g : gRun d m t L st M r) : gRun d m pc L (.null :: st) M r := gR_st hc (fun call => ri_jmp_ok ht) g
theorem gR_ifnonnull_r_j {t k : Nat} (hc : ri_tc m pc = some (.ifnonnull off, len, a, b, c)) (ht : (pc : Int) + off = Int.ofNat t) (g : gRun d m t L st M r) : gRun d m pc L (.ref k :: st) M r := gR_st hc (fun call => ri_jmp_ok ht) g
theorem gR_ifnull_r_f {k : Nat} (hc : ri_tc m pc = some (.ifnull off, len, a, b, c)) (g : gRun d m (pc + 3) L st M r) : gRun d m pc L (.ref k :: st) M r := gR_st hc (fun call => rfl) g
theorem gR_ifnonnull_n_f (hc : ri_tc m pc = some (.ifnonnull off, len, a, b, c)) (g : gRun d m (pc + 3) L st M r) : gRun d m pc L (.null :: st) M r := gR_st hc (fun call => rfl) g
theorem gR_gfI {i k : Nat} (hc : ri_tc m pc = some (.getfield i, len, a, b, c)) (hk : wkd k = a) (hf : Nat.blt (wfk a b) 2 = true) (g : gRun d m (pc + 3) L (.int (s.1 k b) :: st) (wmk s) r) : gRun d m pc L (.ref (k + 1) :: st) (wmk s) r := by
  have hf' : wfk a b < 2 := by simpa [Nat.blt_eq] using hf
  have hb := wfk_b (a := a) (b := b) (by omega)
  refine gR_st hc (fun call => ?_) g
  show ri_gf a b pc L (.ref (k + 1) :: st) (wmk s) 0 0 = _
  have e : wfld s k b = .int (s.1 k b) := by
    unfold wfld
    rw [hk, if_neg (by omega), if_neg (by omega)]
  simp only [ri_gf, wget_o hk hb.1, wfs hb.2, e, if_true]
theorem gR_gfL {i k : Nat} (hc : ri_tc m pc = some (.getfield i, len, a, b, c)) (hk : wkd k = a) (hf : Nat.beq (wfk a b) 2 = true) (g : gRun d m (pc + 3) L (.long (s.2 k b) :: st) (wmk s) r) : gRun d m pc L (.ref (k + 1) :: st) (wmk s) r := by
  have hf' : wfk a b = 2 := Nat.eq_of_beq_eq_true hf
  have hb := wfk_b (a := a) (b := b) (by omega)
  refine gR_st hc (fun call => ?_) g
  show ri_gf a b pc L (.ref (k + 1) :: st) (wmk s) 0 0 = _
  have e : wfld s k b = .long (s.2 k b) := by
    unfold wfld
    rw [hk, if_neg (by omega), if_pos hf']
  simp only [ri_gf, wget_o hk hb.1, wfs hb.2, e, if_true]
theorem gR_gfR {i k k' : Nat} (hc : ri_tc m pc = some (.getfield i, len, a, b, c)) (hk : wkd k = a) (hf : Nat.beq (wfk a b) 3 = true) (hR : wfR k b = k') (g : gRun d m (pc + 3) L (.ref (k' + 1) :: st) (wmk s) r) : gRun d m pc L (.ref (k + 1) :: st) (wmk s) r := by
  have hf' : wfk a b = 3 := Nat.eq_of_beq_eq_true hf
  have hb := wfk_b (a := a) (b := b) (by omega)
  refine gR_st hc (fun call => ?_) g
  show ri_gf a b pc L (.ref (k + 1) :: st) (wmk s) 0 0 = _
  have e : wfld s k b = .ref (k' + 1) := by
    unfold wfld
    rw [hk, if_pos hf', hR]
  simp only [ri_gf, wget_o hk hb.1, wfs hb.2, e, if_true]
theorem gR_pfI {i k : Nat} {v : Int32} (hc : ri_tc m pc = some (.putfield i, len, a, b, c)) (hk : wkd k = a) (hf : Nat.beq (wfk a b) 0 = true) (ht : ri_ft a b = .int) (e : wpfI s k b v = some s') (g : gRun d m (pc + 3) L st (wmk s') r) : gRun d m pc L (.int v :: .ref (k + 1) :: st) (wmk s) r := by
  have hf' : wfk a b = 0 := Nat.eq_of_beq_eq_true hf
  have hb := wfk_b (a := a) (b := b) (by omega)
  refine gR_st hc (fun call => ?_) g
  show ri_pf a b pc L (.int v :: .ref (k + 1) :: st) (wmk s) 0 0 = _
  obtain rfl := gi1 e
  have hfit : ri_fit (ri_ft a b) (.int v) = true := by
    rw [ht]
    rfl
  simp only [ri_pf, wget_o hk hb.1]
  rw [if_pos ⟨trivial, by simpa using hb.2, hfit⟩, wsetI hk (by omega)]
theorem gR_pfZ {i k : Nat} {v : Int32} (hc : ri_tc m pc = some (.putfield i, len, a, b, c)) (hk : wkd k = a) (hf : Nat.beq (wfk a b) 1 = true) (ht : ri_ft a b = .boolean) (e : wpfZ s k b v = some s') (g : gRun d m (pc + 3) L st (wmk s') r) : gRun d m pc L (.int v :: .ref (k + 1) :: st) (wmk s) r := by
  have hf' : wfk a b = 1 := Nat.eq_of_beq_eq_true hf
  have hb := wfk_b (a := a) (b := b) (by omega)
  refine gR_st hc (fun call => ?_) g
  show ri_pf a b pc L (.int v :: .ref (k + 1) :: st) (wmk s) 0 0 = _
  unfold wpfZ at e
  rcases gif e with ⟨h1, e⟩ | ⟨h1, e⟩
  · obtain rfl := gi1 e
    have hfit : ri_fit (ri_ft a b) (.int v) = true := by
      rw [ht]
      simpa [ri_fit] using h1
    simp only [ri_pf, wget_o hk hb.1]
    rw [if_pos ⟨trivial, by simpa using hb.2, hfit⟩, wsetI hk (by omega)]
  · cases e
theorem gR_pfL {i k : Nat} {v : Int64} (hc : ri_tc m pc = some (.putfield i, len, a, b, c)) (hk : wkd k = a) (hf : Nat.beq (wfk a b) 2 = true) (ht : ri_ft a b = .long) (e : wpfL s k b v = some s') (g : gRun d m (pc + 3) L st (wmk s') r) : gRun d m pc L (.long v :: .ref (k + 1) :: st) (wmk s) r := by
  have hf' : wfk a b = 2 := Nat.eq_of_beq_eq_true hf
  have hb := wfk_b (a := a) (b := b) (by omega)
  refine gR_st hc (fun call => ?_) g
  show ri_pf a b pc L (.long v :: .ref (k + 1) :: st) (wmk s) 0 0 = _
  obtain rfl := gi1 e
  have hfit : ri_fit (ri_ft a b) (.long v) = true := by
    rw [ht]
    rfl
  simp only [ri_pf, wget_o hk hb.1]
  rw [if_pos ⟨trivial, by simpa using hb.2, hfit⟩, wsetL hk (by omega)]
theorem wldI_e {k n : Nat} {x v : Int32} (e : wldI s k n x = some v) : ¬ (x < 0 ∨ n ≤ x.toNatClampNeg) ∧ v = s.1 k x.toNatClampNeg := by
  unfold wldI at e
  rcases gif e with ⟨h1, e⟩ | ⟨h1, e⟩
  · cases e
  · exact ⟨h1, (gi1 e).symm⟩
theorem wldL_e {k n : Nat} {x : Int32} {v : Int64} (e : wldL s k n x = some v) : ¬ (x < 0 ∨ n ≤ x.toNatClampNeg) ∧ v = s.2 k x.toNatClampNeg := by
  unfold wldL at e
  rcases gif e with ⟨h1, e⟩ | ⟨h1, e⟩
  · cases e
  · exact ⟨h1, (gi1 e).symm⟩
theorem gR_ial {k n : Nat} {x : Int32} {v : Int32} (hc : ri_tc m pc = some (.iaload, len, a, b, c)) (hk : wkd k = 20) (hn : wln k = n) (e : wldI s k n x = some v) (g : gRun d m (pc + 1) L (.int v :: st) (wmk s) r) : gRun d m pc L (.int x :: .ref (k + 1) :: st) (wmk s) r := by
  obtain ⟨h1, rfl⟩ := wldI_e e
  refine gR_st hc (fun call => ?_) g
  show ri_ial none pc L (.int x :: .ref (k + 1) :: st) (wmk s) 0 0 = _
  simp only [ri_ial, wget_I hk, hn]
  rw [if_neg h1]
theorem gR_ialc {k n j : Nat} {x : Int32} (hc : ri_tc m pc = some (.iaload, len, a, b, c)) (hk : wkd k = 20) (hn : wln k = n) (h1 : ¬ (x < 0 ∨ n ≤ x.toNatClampNeg)) (hj : x.toNatClampNeg = j) (g : gRun d m (pc + 1) L (.int (s.1 k j) :: st) (wmk s) r) : gRun d m pc L (.int x :: .ref (k + 1) :: st) (wmk s) r := by
  subst hj
  exact gR_ial hc hk hn (by unfold wldI; rw [if_neg h1]) g
theorem gR_bal {k n : Nat} {x : Int32} {v : Int32} (hc : ri_tc m pc = some (.baload, len, a, b, c)) (hk : wkd k = 21) (hn : wln k = n) (e : wldI s k n x = some v) (g : gRun d m (pc + 1) L (.int v :: st) (wmk s) r) : gRun d m pc L (.int x :: .ref (k + 1) :: st) (wmk s) r := by
  obtain ⟨h1, rfl⟩ := wldI_e e
  refine gR_st hc (fun call => ?_) g
  show ri_bal pc L (.int x :: .ref (k + 1) :: st) (wmk s) 0 0 = _
  simp only [ri_bal, wget_B hk, hn]
  rw [if_neg h1]
theorem gR_balc {k n j : Nat} {x : Int32} (hc : ri_tc m pc = some (.baload, len, a, b, c)) (hk : wkd k = 21) (hn : wln k = n) (h1 : ¬ (x < 0 ∨ n ≤ x.toNatClampNeg)) (hj : x.toNatClampNeg = j) (g : gRun d m (pc + 1) L (.int (s.1 k j) :: st) (wmk s) r) : gRun d m pc L (.int x :: .ref (k + 1) :: st) (wmk s) r := by
  subst hj
  exact gR_bal hc hk hn (by unfold wldI; rw [if_neg h1]) g
theorem gR_zal {k n : Nat} {x : Int32} {v : Int32} (hc : ri_tc m pc = some (.baload, len, a, b, c)) (hk : wkd k = 22) (hn : wln k = n) (e : wldI s k n x = some v) (g : gRun d m (pc + 1) L (.int v :: st) (wmk s) r) : gRun d m pc L (.int x :: .ref (k + 1) :: st) (wmk s) r := by
  obtain ⟨h1, rfl⟩ := wldI_e e
  refine gR_st hc (fun call => ?_) g
  show ri_bal pc L (.int x :: .ref (k + 1) :: st) (wmk s) 0 0 = _
  simp only [ri_bal, wget_Z hk, hn]
  rw [if_neg h1]
theorem gR_zalc {k n j : Nat} {x : Int32} (hc : ri_tc m pc = some (.baload, len, a, b, c)) (hk : wkd k = 22) (hn : wln k = n) (h1 : ¬ (x < 0 ∨ n ≤ x.toNatClampNeg)) (hj : x.toNatClampNeg = j) (g : gRun d m (pc + 1) L (.int (s.1 k j) :: st) (wmk s) r) : gRun d m pc L (.int x :: .ref (k + 1) :: st) (wmk s) r := by
  subst hj
  exact gR_zal hc hk hn (by unfold wldI; rw [if_neg h1]) g
theorem gR_lal {k n : Nat} {x : Int32} {v : Int64} (hc : ri_tc m pc = some (.laload, len, a, b, c)) (hk : wkd k = 23) (hn : wln k = n) (e : wldL s k n x = some v) (g : gRun d m (pc + 1) L (.long v :: st) (wmk s) r) : gRun d m pc L (.int x :: .ref (k + 1) :: st) (wmk s) r := by
  obtain ⟨h1, rfl⟩ := wldL_e e
  refine gR_st hc (fun call => ?_) g
  show ri_lal pc L (.int x :: .ref (k + 1) :: st) (wmk s) 0 0 = _
  simp only [ri_lal, wget_J hk, hn]
  rw [if_neg h1]
theorem gR_lalc {k n j : Nat} {x : Int32} (hc : ri_tc m pc = some (.laload, len, a, b, c)) (hk : wkd k = 23) (hn : wln k = n) (h1 : ¬ (x < 0 ∨ n ≤ x.toNatClampNeg)) (hj : x.toNatClampNeg = j) (g : gRun d m (pc + 1) L (.long (s.2 k j) :: st) (wmk s) r) : gRun d m pc L (.int x :: .ref (k + 1) :: st) (wmk s) r := by
  subst hj
  exact gR_lal hc hk hn (by unfold wldL; rw [if_neg h1]) g
theorem gR_ias {k n : Nat} {x : Int32} {v : Int32} (hc : ri_tc m pc = some (.iastore, len, a, b, c)) (hk : wkd k = 20) (hn : wln k = n) (e : wstI s k n x v = some s') (g : gRun d m (pc + 1) L st (wmk s') r) : gRun d m pc L (.int v :: .int x :: .ref (k + 1) :: st) (wmk s) r := by
  unfold wstI at e
  rcases gif e with ⟨h1, e⟩ | ⟨h1, e⟩
  · cases e
  · obtain rfl := gi1 e
    refine gR_st hc (fun call => ?_) g
    show ri_ias pc L (.int v :: .int x :: .ref (k + 1) :: st) (wmk s) 0 0 = _
    simp only [ri_ias, wget_I hk, hn]
    rw [if_neg h1, ← hn, wsetAI hk]
theorem gR_bas {k n : Nat} {x : Int32} {v : Int32} (hc : ri_tc m pc = some (.bastore, len, a, b, c)) (hk : wkd k = 21) (hn : wln k = n) (e : wstB s k n x v = some s') (g : gRun d m (pc + 1) L st (wmk s') r) : gRun d m pc L (.int v :: .int x :: .ref (k + 1) :: st) (wmk s) r := by
  unfold wstB at e
  rcases gif e with ⟨h1, e⟩ | ⟨h1, e⟩
  · cases e
  · obtain rfl := gi1 e
    refine gR_st hc (fun call => ?_) g
    show ri_bas pc L (.int v :: .int x :: .ref (k + 1) :: st) (wmk s) 0 0 = _
    simp only [ri_bas, wget_B hk, hn]
    rw [if_neg h1, ← hn, wsetAB hk]
theorem gR_zas {k n : Nat} {x : Int32} {v : Int32} (hc : ri_tc m pc = some (.bastore, len, a, b, c)) (hk : wkd k = 22) (hn : wln k = n) (e : wstZ s k n x v = some s') (g : gRun d m (pc + 1) L st (wmk s') r) : gRun d m pc L (.int v :: .int x :: .ref (k + 1) :: st) (wmk s) r := by
  unfold wstZ at e
  rcases gif e with ⟨h1, e⟩ | ⟨h1, e⟩
  · cases e
  · obtain rfl := gi1 e
    refine gR_st hc (fun call => ?_) g
    show ri_bas pc L (.int v :: .int x :: .ref (k + 1) :: st) (wmk s) 0 0 = _
    simp only [ri_bas, wget_Z hk, hn]
    rw [if_neg h1, ← hn, wsetAZ hk]
theorem gR_las {k n : Nat} {x : Int32} {v : Int64} (hc : ri_tc m pc = some (.lastore, len, a, b, c)) (hk : wkd k = 23) (hn : wln k = n) (e : wstL s k n x v = some s') (g : gRun d m (pc + 1) L st (wmk s') r) : gRun d m pc L (.long v :: .int x :: .ref (k + 1) :: st) (wmk s) r := by
  unfold wstL at e
  rcases gif e with ⟨h1, e⟩ | ⟨h1, e⟩
  · cases e
  · obtain rfl := gi1 e
    refine gR_st hc (fun call => ?_) g
    show ri_las pc L (.long v :: .int x :: .ref (k + 1) :: st) (wmk s) 0 0 = _
    simp only [ri_las, wget_J hk, hn]
    rw [if_neg h1, ← hn, wsetAJ hk]
theorem wldR_e {k n k' : Nat} {x : Int32} (e : wldR k n x = some k') : ¬ (x < 0 ∨ n ≤ x.toNatClampNeg) ∧ (wrA k x.toNatClampNeg).map Nat.pred = some k' := by
  unfold wldR at e
  rcases gif e with ⟨h1, e⟩ | ⟨h1, e⟩
  · cases e
  · exact ⟨h1, e⟩
theorem wrA_p {k i q : Nat} (h : wrA k i = some q) : ∃ z, q = z + 1 := by
  unfold wrA at h
  cases e1 : Nat.beq k 13 <;> rw [e1] at h <;> simp only [cond_true, cond_false] at h
  · cases e2 : Nat.blt i 4 <;> rw [e2] at h
    · cases h
    · exact ⟨104 + 12 * i, by have := gi1 h; omega⟩
  · cases e2 : Nat.blt i 6 <;> rw [e2] at h
    · cases h
    · exact ⟨44 + 10 * i, by have := gi1 h; omega⟩
theorem wldR_3 {n k' : Nat} {x : Int32} (e : wldR 13 n x = some k') : wkd k' = 3 := by
  have h := (wldR_e e).2
  generalize x.toNatClampNeg = i at h
  unfold wrA at h
  simp only [show Nat.beq 13 13 = true from rfl, cond_true] at h
  cases e2 : Nat.blt i 6 <;> rw [e2] at h
  · cases h
  · have hi : i < 6 := by simpa [Nat.blt_eq] using e2
    have := gi1 h
    subst this
    have : ∀ i < 6, wkd (Nat.pred (45 + 10 * i)) = 3 := by decide
    exact this i hi
theorem wldR_2 {n k' : Nat} {x : Int32} (e : wldR 26 n x = some k') : wkd k' = 2 := by
  have h := (wldR_e e).2
  generalize x.toNatClampNeg = i at h
  unfold wrA at h
  simp only [show Nat.beq 26 13 = false from rfl, cond_false] at h
  cases e2 : Nat.blt i 4 <;> rw [e2] at h
  · cases h
  · have hi : i < 4 := by simpa [Nat.blt_eq] using e2
    have := gi1 h
    subst this
    have : ∀ i < 4, wkd (Nat.pred (105 + 12 * i)) = 2 := by decide
    exact this i hi
theorem gR_aal {k n k' : Nat} {x : Int32} (hc : ri_tc m pc = some (.aaload, len, a, b, c)) (hk : (Nat.beq (wkd k) 24 || Nat.beq (wkd k) 25) = true) (hn : wln k = n) (e : wldR k n x = some k') (g : gRun d m (pc + 1) L (.ref (k' + 1) :: st) (wmk s) r) : gRun d m pc L (.int x :: .ref (k + 1) :: st) (wmk s) r := by
  obtain ⟨h1, h2⟩ := wldR_e e
  have hk' : wkd k = 24 ∨ wkd k = 25 := by
    rcases gor hk with h | h
    · exact .inl (Nat.eq_of_beq_eq_true h)
    · exact .inr (Nat.eq_of_beq_eq_true h)
  refine gR_st hc (fun call => ?_) g
  show ri_aal pc L (.int x :: .ref (k + 1) :: st) (wmk s) 0 0 = _
  have hC : ∃ C, wCl k = .object C := by
    unfold wCl
    cases Nat.beq k 13
    · exact ⟨_, rfl⟩
    · exact ⟨_, rfl⟩
  obtain ⟨C, hC⟩ := hC
  simp only [ri_aal, wget_A hk', hC, hn]
  rw [if_neg h1]
  cases e3 : wrA k x.toNatClampNeg with
  | none => rw [e3] at h2; cases h2
  | some q =>
    rw [e3] at h2
    obtain ⟨z, rfl⟩ := wrA_p e3
    have : z = k' := gi1 h2
    subst this
    rfl
theorem gR_aln {k n : Nat} {w : Int32} (hc : ri_tc m pc = some (.arraylength, len, a, b, c)) (hk : (Nat.ble 20 (wkd k) && Nat.ble (wkd k) 25) = true) (hn : wln k = n) (hw : Int32.ofNat n = w) (g : gRun d m (pc + 1) L (.int w :: st) (wmk s) r) : gRun d m pc L (.ref (k + 1) :: st) (wmk s) r := by
  subst hw
  have h2 : 20 ≤ wkd k ∧ wkd k ≤ 25 := by
    have := gand hk
    exact ⟨Nat.le_of_ble_eq_true this.1, Nat.le_of_ble_eq_true this.2⟩
  have hx : ∃ ty z, (wmk s)[k]? = some (.inl (ty, (n, z))) := by
    have h3 : wkd k = 20 ∨ wkd k = 21 ∨ wkd k = 22 ∨ wkd k = 23 ∨ (wkd k = 24 ∨ wkd k = 25) := by omega
    rcases h3 with h | h | h | h | h
    · exact ⟨_, _, by rw [wget_I h, hn]⟩
    · exact ⟨_, _, by rw [wget_B h, hn]⟩
    · exact ⟨_, _, by rw [wget_Z h, hn]⟩
    · exact ⟨_, _, by rw [wget_J h, hn]⟩
    · exact ⟨_, _, by rw [wget_A h, hn]⟩
  obtain ⟨ty, z, hx⟩ := hx
  refine gR_st hc (fun call => ?_) g
  show ri_aln none pc L (.ref (k + 1) :: st) (wmk s) 0 0 = _
  simp only [ri_aln, hx]
theorem gR_acp {i k k1 n n1 : Nat} {sp dp q : Int32} (hc : ri_tc m pc = some (.invokestatic i, len, a, b, c)) (h10 : Nat.beq (c % 16) 10 = true) (hk : wkd k = 20) (hn : wln k = n) (hk1 : wkd k1 = 20) (hn1 : wln k1 = n1) (e : wcpI s k n k1 n1 sp dp q = some s') (hcat : Nat.ble (ri_cat st) 8 = true) (g : gRun d m (pc + 3) L st (wmk s') r) : gRun d m pc L (.int q :: .int dp :: .ref (k1 + 1) :: .int sp :: .ref (k + 1) :: st) (wmk s) r := by
  unfold wcpI at e
  rcases gif e with ⟨h1, e⟩ | ⟨h1, e⟩
  · obtain rfl := gi1 e
    refine gR_st hc (fun call => ?_) g
    have h10' : c % 16 = 10 := Nat.eq_of_beq_eq_true h10
    show (match c % 16 with
      | 0 => ri_cls call a b pc L _ (wmk s) 0 0
      | 1 => ri_cls call a b pc L _ (wmk s) 0 0
      | 7 => _
      | 8 => _
      | 9 => _
      | 10 => ri_acp pc L (.int q :: .int dp :: .ref (k1 + 1) :: .int sp :: .ref (k + 1) :: st) (wmk s) 0 0
      | _ => _) = _
    rw [h10']
    show ri_acp pc L (.int q :: .int dp :: .ref (k1 + 1) :: .int sp :: .ref (k + 1) :: st) (wmk s) 0 0 = _
    simp only [ri_acp, wget_I hk, wget_I hk1, hn, hn1]
    rw [if_pos ⟨h1, Nat.le_of_ble_eq_true hcat⟩]
    rw [← hn1]
    have e2 : (wmk s).set k1 (.inl (.int, (wln k1, .inl (va_cpy (s.1 k) (s.1 k1) sp.toNatClampNeg dp.toNatClampNeg q.toNatClampNeg)))) = wmk (fun j => if j = k1 then va_cpy (s.1 k) (s.1 k1) sp.toNatClampNeg dp.toNatClampNeg q.toNatClampNeg else s.1 j, s.2) := wset (by simp [wcell, hk1]) (fun j hj => by simp [hj]) (fun _ _ => rfl)
    rw [e2]
  · cases e
theorem gR_dvI {x y v : Int32} (hc : ri_tc m pc = some (.idiv, len, a, b, c)) (e : wdvI x y = some v) (g : gRun d m (pc + 1) L (.int v :: st) M r) : gRun d m pc L (.int y :: .int x :: st) M r := by
  unfold wdvI at e
  rcases gif e with ⟨h1, e⟩ | ⟨h1, e⟩
  · cases e
  · obtain rfl := gi1 e
    refine gR_st hc (fun call => ?_) g
    show (if y = 0 then none else _) = _
    rw [if_neg h1]
theorem gR_dvIc {x y : Int32} (hc : ri_tc m pc = some (.idiv, len, a, b, c)) (h1 : ¬ y = 0) (g : gRun d m (pc + 1) L (.int (x / y) :: st) M r) : gRun d m pc L (.int y :: .int x :: st) M r := gR_dvI hc (by unfold wdvI; rw [if_neg h1]) g
theorem gR_rmI {x y v : Int32} (hc : ri_tc m pc = some (.irem, len, a, b, c)) (e : wrmI x y = some v) (g : gRun d m (pc + 1) L (.int v :: st) M r) : gRun d m pc L (.int y :: .int x :: st) M r := by
  unfold wrmI at e
  rcases gif e with ⟨h1, e⟩ | ⟨h1, e⟩
  · cases e
  · obtain rfl := gi1 e
    refine gR_st hc (fun call => ?_) g
    show (if y = 0 then none else _) = _
    rw [if_neg h1]
theorem gR_rmIc {x y : Int32} (hc : ri_tc m pc = some (.irem, len, a, b, c)) (h1 : ¬ y = 0) (g : gRun d m (pc + 1) L (.int (x - x / y * y) :: st) M r) : gRun d m pc L (.int y :: .int x :: st) M r := gR_rmI hc (by unfold wrmI; rw [if_neg h1]) g
theorem gR_dvL {x y v : Int64} (hc : ri_tc m pc = some (.ldiv, len, a, b, c)) (e : wdvL x y = some v) (g : gRun d m (pc + 1) L (.long v :: st) M r) : gRun d m pc L (.long y :: .long x :: st) M r := by
  unfold wdvL at e
  rcases gif e with ⟨h1, e⟩ | ⟨h1, e⟩
  · cases e
  · obtain rfl := gi1 e
    refine gR_st hc (fun call => ?_) g
    show (if y = 0 then none else _) = _
    rw [if_neg h1]
theorem gR_dvLc {x y : Int64} (hc : ri_tc m pc = some (.ldiv, len, a, b, c)) (h1 : ¬ y = 0) (g : gRun d m (pc + 1) L (.long (x / y) :: st) M r) : gRun d m pc L (.long y :: .long x :: st) M r := gR_dvL hc (by unfold wdvL; rw [if_neg h1]) g
theorem gR_rmL {x y v : Int64} (hc : ri_tc m pc = some (.lrem, len, a, b, c)) (e : wrmL x y = some v) (g : gRun d m (pc + 1) L (.long v :: st) M r) : gRun d m pc L (.long y :: .long x :: st) M r := by
  unfold wrmL at e
  rcases gif e with ⟨h1, e⟩ | ⟨h1, e⟩
  · cases e
  · obtain rfl := gi1 e
    refine gR_st hc (fun call => ?_) g
    show (if y = 0 then none else _) = _
    rw [if_neg h1]
theorem gR_rmLc {x y : Int64} (hc : ri_tc m pc = some (.lrem, len, a, b, c)) (h1 : ¬ y = 0) (g : gRun d m (pc + 1) L (.long (x - x / y * y) :: st) M r) : gRun d m pc L (.long y :: .long x :: st) M r := gR_rmL hc (by unfold wrmL; rw [if_neg h1]) g
theorem gR_min {i : Nat} {x y : Int32} (hc : ri_tc m pc = some (.invokestatic i, len, a, b, c)) (h10 : Nat.beq (c % 16) 7 = true) (hcat : Nat.ble (ri_cat st) 8 = true) (g : gRun d m (pc + 3) L (.int (wmin x y) :: st) M r) : gRun d m pc L (.int y :: .int x :: st) M r := by
  refine gR_st hc (fun call => ?_) g
  have h10' : c % 16 = 7 := Nat.eq_of_beq_eq_true h10
  simp only [ri_step, h10', ri_mm, if_pos (Nat.le_of_ble_eq_true hcat)]
  rfl
theorem gR_max {i : Nat} {x y : Int32} (hc : ri_tc m pc = some (.invokestatic i, len, a, b, c)) (h10 : Nat.beq (c % 16) 8 = true) (hcat : Nat.ble (ri_cat st) 8 = true) (g : gRun d m (pc + 3) L (.int (wmax x y) :: st) M r) : gRun d m pc L (.int y :: .int x :: st) M r := by
  refine gR_st hc (fun call => ?_) g
  have h10' : c % 16 = 8 := Nat.eq_of_beq_eq_true h10
  simp only [ri_step, h10', ri_mm, if_pos (Nat.le_of_ble_eq_true hcat)]
  rfl
theorem gR_abs {i : Nat} {x : Int32} (hc : ri_tc m pc = some (.invokestatic i, len, a, b, c)) (h10 : Nat.beq (c % 16) 9 = true) (hcat : Nat.ble (ri_cat st) 8 = true) (g : gRun d m (pc + 3) L (.int (wabs x) :: st) M r) : gRun d m pc L (.int x :: st) M r := by
  refine gR_st hc (fun call => ?_) g
  have h10' : c % 16 = 9 := Nat.eq_of_beq_eq_true h10
  simp only [ri_step, h10', ri_ma, if_pos (Nat.le_of_ble_eq_true hcat)]
  rfl
theorem gR_sw_k {lo hi dd : Int} {offs : Array Int} {x kk : Int32} {t : Nat} (hc : ri_tc m pc = some (.tableswitch dd lo hi offs, len, a, b, c)) (h : x = kk) (ho : (if kk.toInt < lo ∨ hi < kk.toInt then none else offs[(kk.toInt - lo).toNat]?) = some off) (ht : (pc : Int) + off = Int.ofNat t) (g : gRun d m t L st M r) : gRun d m pc L (.int x :: st) M r := by
  subst h
  refine gR_st hc (fun call => ?_) g
  show ri_tsw dd lo hi offs pc L (.int x :: st) M 0 0 = _
  rcases gif ho with ⟨h1, ho⟩ | ⟨h1, ho⟩
  · cases ho
  · simp only [ri_tsw]
    rw [if_neg h1, ho]
    exact ri_jmp_ok ht
theorem gR_sw_d (cs : List Int32) {lo hi dd : Int} {offs : Array Int} {x : Int32} {t : Nat} (hc : ri_tc m pc = some (.tableswitch dd lo hi offs, len, a, b, c)) (hx : ∀ n ∈ cs, ¬ x = n) (hall : (List.range offs.size).all (fun i => decide (offs[i]? = some dd) || cs.any (fun n => decide (n.toInt = lo + (i : Int)))) = true) (hsz : (offs.size : Int) = hi - lo + 1) (ht : (pc : Int) + dd = Int.ofNat t) (g : gRun d m t L st M r) : gRun d m pc L (.int x :: st) M r := by
  refine gR_st hc (fun call => ?_) g
  show ri_tsw dd lo hi offs pc L (.int x :: st) M 0 0 = _
  simp only [ri_tsw]
  by_cases h1 : x.toInt < lo ∨ hi < x.toInt
  · rw [if_pos h1]
    exact ri_jmp_ok ht
  · rw [if_neg h1]
    have h2 : (x.toInt - lo).toNat < offs.size := by omega
    have h3 := List.all_eq_true.1 hall (x.toInt - lo).toNat (List.mem_range.2 h2)
    rcases gor h3 with h4 | h4
    · rw [of_decide_eq_true h4]
      exact ri_jmp_ok ht
    · exfalso
      obtain ⟨n, hn, he⟩ := List.any_eq_true.1 h4
      have he := of_decide_eq_true he
      exact hx n hn (Int32.toInt_inj.1 (by omega))
theorem gR_ls_k {dd : Int} {ps : Array (Int × Int)} {x kk : Int32} {t : Nat} (hc : ri_tc m pc = some (.lookupswitch dd ps, len, a, b, c)) (h : x = kk) (ho : (if (ps.toList.zip (ps.toList.drop 1)).all (fun (a, next) => a.1 < next.1) = true then some (Op.lookupswitch.offset ps.toList dd kk.toInt) else none) = some off) (ht : (pc : Int) + off = Int.ofNat t) (g : gRun d m t L st M r) : gRun d m pc L (.int x :: st) M r := by
  subst h
  refine gR_st hc (fun call => ?_) g
  show ri_lsw dd ps pc L (.int x :: st) M 0 0 = _
  rcases gif ho with ⟨h1, ho⟩ | ⟨h1, ho⟩
  · simp only [ri_lsw]
    rw [if_pos h1, gi1 ho]
    exact ri_jmp_ok ht
  · cases ho
theorem gls {cs : List Int32} {x : Int32} {dd : Int} (hx : ∀ n ∈ cs, ¬ x = n) : ∀ (l : List (Int × Int)), l.all (fun p => cs.any (fun n => decide (n.toInt = p.1))) = true → Op.lookupswitch.offset l dd x.toInt = dd
  | [], _ => rfl
  | (p, o) :: l, h => by
    simp only [List.all_cons] at h
    have h2 := gand h
    obtain ⟨n, hn, he⟩ := List.any_eq_true.1 h2.1
    have he : n.toInt = p := of_decide_eq_true he
    show (if p = x.toInt then o else Op.lookupswitch.offset l dd x.toInt) = dd
    rw [if_neg (fun e => hx n hn (Int32.toInt_inj.1 (by omega)))]
    exact gls hx l h2.2
theorem gR_ls_d (cs : List Int32) {dd : Int} {ps : Array (Int × Int)} {x : Int32} {t : Nat} (hc : ri_tc m pc = some (.lookupswitch dd ps, len, a, b, c)) (hx : ∀ n ∈ cs, ¬ x = n) (hall : ps.toList.all (fun p => cs.any (fun n => decide (n.toInt = p.1))) = true) (hs : (ps.toList.zip (ps.toList.drop 1)).all (fun (a, next) => a.1 < next.1) = true) (ht : (pc : Int) + dd = Int.ofNat t) (g : gRun d m t L st M r) : gRun d m pc L (.int x :: st) M r := by
  refine gR_st hc (fun call => ?_) g
  show ri_lsw dd ps pc L (.int x :: st) M 0 0 = _
  simp only [ri_lsw]
  rw [if_pos hs, gls hx _ hall]
  exact ri_jmp_ok ht
theorem gR_ri {x : Int32} (hc : ri_tc m pc = some (.ireturn, len, a, b, c)) (hr : ri_rt m = some .int) : gRun d m pc L [.int x] M (some (.int x), M, 0, 0) := gR_rs hc (fun call => by
  show ri_ret (ri_rt m) [.int x] M 0 0 = _
  rw [hr]
  rfl)
theorem gR_rz {x v : Int32} (hc : ri_tc m pc = some (.ireturn, len, a, b, c)) (hr : ri_rt m = some .boolean) (e : wrtZ x = some v) : gRun d m pc L [.int x] M (some (.int v), M, 0, 0) := gR_rs hc (fun call => by
  show ri_ret (ri_rt m) [.int x] M 0 0 = _
  rw [hr]
  unfold wrtZ at e
  rcases gif e with ⟨h1, e⟩ | ⟨h1, e⟩
  · obtain rfl := gi1 e
    have : ri_fit .boolean (.int x) = true := by simpa [ri_fit] using h1
    simp only [ri_ret]
    rw [if_pos this]
  · cases e)
theorem gR_rzc {x : Int32} (hc : ri_tc m pc = some (.ireturn, len, a, b, c)) (hr : ri_rt m = some .boolean) (e : ri_fit .boolean (.int x) = true) : gRun d m pc L [.int x] M (some (.int x), M, 0, 0) := gR_rs hc (fun call => by
  show ri_ret (ri_rt m) [.int x] M 0 0 = _
  rw [hr]
  simp only [ri_ret]
  rw [if_pos e])
theorem gR_rl {x : Int64} (hc : ri_tc m pc = some (.lreturn, len, a, b, c)) (hr : ri_rt m = some .long) : gRun d m pc L [.long x] M (some (.long x), M, 0, 0) := gR_rs hc (fun call => by
  show ri_lret (ri_rt m) [.long x] M 0 0 = _
  rw [hr]
  rfl)
theorem gR_ra {o : Option Nat} {C : String} (hc : ri_tc m pc = some (.areturn, len, a, b, c)) (hr : ri_rt m = some (.object C)) : gRun d m pc L [wrv o] M (some (wrv o), M, 0, 0) := gR_rs hc (fun call => by
  show ri_aret (ri_rt m) [wrv o] M 0 0 = _
  rw [hr]
  cases o <;> rfl)
theorem gR_rv (hc : ri_tc m pc = some (.return_, len, a, b, c)) (hr : ri_rt m = none) : gRun d m pc L [] M (none, M, 0, 0) := gR_rs hc (fun call => by
  show ri_vret (ri_rt m) [] M 0 0 = _
  rw [hr]
  rfl)
theorem gR_cvI {i k : Nat} {v : Int32} (he : gEv d1 a (.ref (k + 1) :: as) (wmk s) (some (.int v), M1, 0, 0)) (hd : d1 ≤ d) (hc : ri_tc m pc = some (.invokevirtual i, len, a, b, c)) (hs : ri_spl b [] st = some (as, .ref (k + 1) :: rr)) (hk : wkd k = ri_rc a) (hr : Nat.blt (ri_rc a) 12 = true) (hcat : Nat.ble (ri_cat rr) 8 = true) (g : gRun d m (pc + 3) L (.int v :: rr) M1 r) : gRun d m pc L st (wmk s) r := by
  refine gR_ca he hd hc (fun call hcall => ?_) g
  show ri_clv call ri_rc a b pc L st (wmk s) 0 0 = _
  have hr' : ri_rc a < 12 := by simpa [Nat.blt_eq] using hr
  simp only [ri_clv, hs, wget_o hk hr']
  rw [if_pos ⟨trivial, Nat.le_of_ble_eq_true hcat⟩, hcall]
  rfl
theorem gR_cnI {i k : Nat} {v : Int32} (he : gEv d1 a (.ref k :: as) M (some (.int v), M1, 0, 0)) (hd : d1 ≤ d) (hc : ri_tc m pc = some (.invokespecial i, len, a, b, c)) (hs : ri_spl b [] st = some (as, .ref k :: rr)) (h6 : Nat.beq (c % 16) 6 = false) (hcat : Nat.ble (ri_cat rr) 8 = true) (g : gRun d m (pc + 3) L (.int v :: rr) M1 r) : gRun d m pc L st M r := by
  refine gR_ca he hd hc (fun call hcall => ?_) g
  show (if c % 16 = 6 then ri_oin pc L st M 0 0 else ri_cin call a b pc L st M 0 0) = _
  rw [if_neg (fun e => by rw [e] at h6; cases h6)]
  simp only [ri_cin, hs]
  rw [if_pos (Nat.le_of_ble_eq_true hcat), hcall]
  rfl
theorem gR_csI {i : Nat} {v : Int32} (he : gEv d1 a as M (some (.int v), M1, 0, 0)) (hd : d1 ≤ d) (hc : ri_tc m pc = some (.invokestatic i, len, a, b, c)) (hs : ri_spl b [] st = some (as, rr)) (h01 : Nat.blt (c % 16) 2 = true) (hcat : Nat.ble (ri_cat rr) 8 = true) (g : gRun d m (pc + 3) L (.int v :: rr) M1 r) : gRun d m pc L st M r := by
  refine gR_ca he hd hc (fun call hcall => ?_) g
  have h01' : c % 16 = 0 ∨ c % 16 = 1 := by
    have : c % 16 < 2 := by simpa [Nat.blt_eq] using h01
    omega
  have : ri_cls call a b pc L st M 0 0 = some (.inl (pc + 3, L, .int v :: rr, M1, 0, 0)) := by
    simp only [ri_cls, hs]
    rw [if_pos (Nat.le_of_ble_eq_true hcat), hcall]
    rfl
  rcases h01' with e | e <;> simp only [ri_step, e, this]
theorem gR_cvL {i k : Nat} {v : Int64} (he : gEv d1 a (.ref (k + 1) :: as) (wmk s) (some (.long v), M1, 0, 0)) (hd : d1 ≤ d) (hc : ri_tc m pc = some (.invokevirtual i, len, a, b, c)) (hs : ri_spl b [] st = some (as, .ref (k + 1) :: rr)) (hk : wkd k = ri_rc a) (hr : Nat.blt (ri_rc a) 12 = true) (hcat : Nat.ble (ri_cat rr) 8 = true) (g : gRun d m (pc + 3) L (.long v :: rr) M1 r) : gRun d m pc L st (wmk s) r := by
  refine gR_ca he hd hc (fun call hcall => ?_) g
  show ri_clv call ri_rc a b pc L st (wmk s) 0 0 = _
  have hr' : ri_rc a < 12 := by simpa [Nat.blt_eq] using hr
  simp only [ri_clv, hs, wget_o hk hr']
  rw [if_pos ⟨trivial, Nat.le_of_ble_eq_true hcat⟩, hcall]
  rfl
theorem gR_cnL {i k : Nat} {v : Int64} (he : gEv d1 a (.ref k :: as) M (some (.long v), M1, 0, 0)) (hd : d1 ≤ d) (hc : ri_tc m pc = some (.invokespecial i, len, a, b, c)) (hs : ri_spl b [] st = some (as, .ref k :: rr)) (h6 : Nat.beq (c % 16) 6 = false) (hcat : Nat.ble (ri_cat rr) 8 = true) (g : gRun d m (pc + 3) L (.long v :: rr) M1 r) : gRun d m pc L st M r := by
  refine gR_ca he hd hc (fun call hcall => ?_) g
  show (if c % 16 = 6 then ri_oin pc L st M 0 0 else ri_cin call a b pc L st M 0 0) = _
  rw [if_neg (fun e => by rw [e] at h6; cases h6)]
  simp only [ri_cin, hs]
  rw [if_pos (Nat.le_of_ble_eq_true hcat), hcall]
  rfl
theorem gR_csL {i : Nat} {v : Int64} (he : gEv d1 a as M (some (.long v), M1, 0, 0)) (hd : d1 ≤ d) (hc : ri_tc m pc = some (.invokestatic i, len, a, b, c)) (hs : ri_spl b [] st = some (as, rr)) (h01 : Nat.blt (c % 16) 2 = true) (hcat : Nat.ble (ri_cat rr) 8 = true) (g : gRun d m (pc + 3) L (.long v :: rr) M1 r) : gRun d m pc L st M r := by
  refine gR_ca he hd hc (fun call hcall => ?_) g
  have h01' : c % 16 = 0 ∨ c % 16 = 1 := by
    have : c % 16 < 2 := by simpa [Nat.blt_eq] using h01
    omega
  have : ri_cls call a b pc L st M 0 0 = some (.inl (pc + 3, L, .long v :: rr, M1, 0, 0)) := by
    simp only [ri_cls, hs]
    rw [if_pos (Nat.le_of_ble_eq_true hcat), hcall]
    rfl
  rcases h01' with e | e <;> simp only [ri_step, e, this]
theorem gR_cvR {i k : Nat} {v : Option Nat} (he : gEv d1 a (.ref (k + 1) :: as) (wmk s) (some (wrv v), M1, 0, 0)) (hd : d1 ≤ d) (hc : ri_tc m pc = some (.invokevirtual i, len, a, b, c)) (hs : ri_spl b [] st = some (as, .ref (k + 1) :: rr)) (hk : wkd k = ri_rc a) (hr : Nat.blt (ri_rc a) 12 = true) (hcat : Nat.ble (ri_cat rr) 8 = true) (g : gRun d m (pc + 3) L (wrv v :: rr) M1 r) : gRun d m pc L st (wmk s) r := by
  refine gR_ca he hd hc (fun call hcall => ?_) g
  show ri_clv call ri_rc a b pc L st (wmk s) 0 0 = _
  have hr' : ri_rc a < 12 := by simpa [Nat.blt_eq] using hr
  simp only [ri_clv, hs, wget_o hk hr']
  rw [if_pos ⟨trivial, Nat.le_of_ble_eq_true hcat⟩, hcall]
  rfl
theorem gR_cnR {i k : Nat} {v : Option Nat} (he : gEv d1 a (.ref k :: as) M (some (wrv v), M1, 0, 0)) (hd : d1 ≤ d) (hc : ri_tc m pc = some (.invokespecial i, len, a, b, c)) (hs : ri_spl b [] st = some (as, .ref k :: rr)) (h6 : Nat.beq (c % 16) 6 = false) (hcat : Nat.ble (ri_cat rr) 8 = true) (g : gRun d m (pc + 3) L (wrv v :: rr) M1 r) : gRun d m pc L st M r := by
  refine gR_ca he hd hc (fun call hcall => ?_) g
  show (if c % 16 = 6 then ri_oin pc L st M 0 0 else ri_cin call a b pc L st M 0 0) = _
  rw [if_neg (fun e => by rw [e] at h6; cases h6)]
  simp only [ri_cin, hs]
  rw [if_pos (Nat.le_of_ble_eq_true hcat), hcall]
  rfl
theorem gR_csR {i : Nat} {v : Option Nat} (he : gEv d1 a as M (some (wrv v), M1, 0, 0)) (hd : d1 ≤ d) (hc : ri_tc m pc = some (.invokestatic i, len, a, b, c)) (hs : ri_spl b [] st = some (as, rr)) (h01 : Nat.blt (c % 16) 2 = true) (hcat : Nat.ble (ri_cat rr) 8 = true) (g : gRun d m (pc + 3) L (wrv v :: rr) M1 r) : gRun d m pc L st M r := by
  refine gR_ca he hd hc (fun call hcall => ?_) g
  have h01' : c % 16 = 0 ∨ c % 16 = 1 := by
    have : c % 16 < 2 := by simpa [Nat.blt_eq] using h01
    omega
  have : ri_cls call a b pc L st M 0 0 = some (.inl (pc + 3, L, wrv v :: rr, M1, 0, 0)) := by
    simp only [ri_cls, hs]
    rw [if_pos (Nat.le_of_ble_eq_true hcat), hcall]
    rfl
  rcases h01' with e | e <;> simp only [ri_step, e, this]
theorem gR_cvV {i k : Nat}  (he : gEv d1 a (.ref (k + 1) :: as) (wmk s) (none, M1, 0, 0)) (hd : d1 ≤ d) (hc : ri_tc m pc = some (.invokevirtual i, len, a, b, c)) (hs : ri_spl b [] st = some (as, .ref (k + 1) :: rr)) (hk : wkd k = ri_rc a) (hr : Nat.blt (ri_rc a) 12 = true) (hcat : Nat.ble (ri_cat rr) 8 = true) (g : gRun d m (pc + 3) L (rr) M1 r) : gRun d m pc L st (wmk s) r := by
  refine gR_ca he hd hc (fun call hcall => ?_) g
  show ri_clv call ri_rc a b pc L st (wmk s) 0 0 = _
  have hr' : ri_rc a < 12 := by simpa [Nat.blt_eq] using hr
  simp only [ri_clv, hs, wget_o hk hr']
  rw [if_pos ⟨trivial, Nat.le_of_ble_eq_true hcat⟩, hcall]
  rfl
theorem gR_cnV {i k : Nat}  (he : gEv d1 a (.ref k :: as) M (none, M1, 0, 0)) (hd : d1 ≤ d) (hc : ri_tc m pc = some (.invokespecial i, len, a, b, c)) (hs : ri_spl b [] st = some (as, .ref k :: rr)) (h6 : Nat.beq (c % 16) 6 = false) (hcat : Nat.ble (ri_cat rr) 8 = true) (g : gRun d m (pc + 3) L (rr) M1 r) : gRun d m pc L st M r := by
  refine gR_ca he hd hc (fun call hcall => ?_) g
  show (if c % 16 = 6 then ri_oin pc L st M 0 0 else ri_cin call a b pc L st M 0 0) = _
  rw [if_neg (fun e => by rw [e] at h6; cases h6)]
  simp only [ri_cin, hs]
  rw [if_pos (Nat.le_of_ble_eq_true hcat), hcall]
  rfl
theorem gR_csV {i : Nat}  (he : gEv d1 a as M (none, M1, 0, 0)) (hd : d1 ≤ d) (hc : ri_tc m pc = some (.invokestatic i, len, a, b, c)) (hs : ri_spl b [] st = some (as, rr)) (h01 : Nat.blt (c % 16) 2 = true) (hcat : Nat.ble (ri_cat rr) 8 = true) (g : gRun d m (pc + 3) L (rr) M1 r) : gRun d m pc L st M r := by
  refine gR_ca he hd hc (fun call hcall => ?_) g
  have h01' : c % 16 = 0 ∨ c % 16 = 1 := by
    have : c % 16 < 2 := by simpa [Nat.blt_eq] using h01
    omega
  have : ri_cls call a b pc L st M 0 0 = some (.inl (pc + 3, L, rr, M1, 0, 0)) := by
    simp only [ri_cls, hs]
    rw [if_pos (Nat.le_of_ble_eq_true hcat), hcall]
    rfl
  rcases h01' with e | e <;> simp only [ri_step, e, this]
theorem wly_0_0 {k : Nat} (h : wkd k = 0) : wfR k 0 = k + 1 ∧ wkd (k + 1) = 20 ∧ wln (k + 1) = 3 := by
  have hk := wlt (k := k) (by omega)
  have : ∀ k < 172, wkd k = 0 → (wfR k 0 = k + 1 ∧ wkd (k + 1) = 20 ∧ wln (k + 1) = 3) := by decide +kernel
  exact this k hk h
theorem wly_0_1 {k : Nat} (h : wkd k = 0) : wfR k 1 = k + 2 ∧ wkd (k + 2) = 20 ∧ wln (k + 2) = 24 := by
  have hk := wlt (k := k) (by omega)
  have : ∀ k < 172, wkd k = 0 → (wfR k 1 = k + 2 ∧ wkd (k + 2) = 20 ∧ wln (k + 2) = 24) := by decide +kernel
  exact this k hk h
theorem wly_0_2 {k : Nat} (h : wkd k = 0) : wfR k 2 = k + 3 ∧ wkd (k + 3) = 20 ∧ wln (k + 3) = 24 := by
  have hk := wlt (k := k) (by omega)
  have : ∀ k < 172, wkd k = 0 → (wfR k 2 = k + 3 ∧ wkd (k + 3) = 20 ∧ wln (k + 3) = 24) := by decide +kernel
  exact this k hk h
theorem wly_2_0 {k : Nat} (h : wkd k = 2) : wfR k 0 = k + 1 ∧ wkd (k + 1) = 0 ∧ wln (k + 1) = 0 := by
  have hk := wlt (k := k) (by omega)
  have : ∀ k < 172, wkd k = 2 → (wfR k 0 = k + 1 ∧ wkd (k + 1) = 0 ∧ wln (k + 1) = 0) := by decide +kernel
  exact this k hk h
theorem wly_2_1 {k : Nat} (h : wkd k = 2) : wfR k 1 = k + 5 ∧ wkd (k + 5) = 20 ∧ wln (k + 5) = 40 := by
  have hk := wlt (k := k) (by omega)
  have : ∀ k < 172, wkd k = 2 → (wfR k 1 = k + 5 ∧ wkd (k + 5) = 20 ∧ wln (k + 5) = 40) := by decide +kernel
  exact this k hk h
theorem wly_2_2 {k : Nat} (h : wkd k = 2) : wfR k 2 = k + 6 ∧ wkd (k + 6) = 20 ∧ wln (k + 6) = 40 := by
  have hk := wlt (k := k) (by omega)
  have : ∀ k < 172, wkd k = 2 → (wfR k 2 = k + 6 ∧ wkd (k + 6) = 20 ∧ wln (k + 6) = 40) := by decide +kernel
  exact this k hk h
theorem wly_2_3 {k : Nat} (h : wkd k = 2) : wfR k 3 = k + 7 ∧ wkd (k + 7) = 20 ∧ wln (k + 7) = 40 := by
  have hk := wlt (k := k) (by omega)
  have : ∀ k < 172, wkd k = 2 → (wfR k 3 = k + 7 ∧ wkd (k + 7) = 20 ∧ wln (k + 7) = 40) := by decide +kernel
  exact this k hk h
theorem wly_2_4 {k : Nat} (h : wkd k = 2) : wfR k 4 = k + 8 ∧ wkd (k + 8) = 20 ∧ wln (k + 8) = 40 := by
  have hk := wlt (k := k) (by omega)
  have : ∀ k < 172, wkd k = 2 → (wfR k 4 = k + 8 ∧ wkd (k + 8) = 20 ∧ wln (k + 8) = 40) := by decide +kernel
  exact this k hk h
theorem wly_2_5 {k : Nat} (h : wkd k = 2) : wfR k 5 = k + 9 ∧ wkd (k + 9) = 22 ∧ wln (k + 9) = 40 := by
  have hk := wlt (k := k) (by omega)
  have : ∀ k < 172, wkd k = 2 → (wfR k 5 = k + 9 ∧ wkd (k + 9) = 22 ∧ wln (k + 9) = 40) := by decide +kernel
  exact this k hk h
theorem wly_2_8 {k : Nat} (h : wkd k = 2) : wfR k 8 = k + 10 ∧ wkd (k + 10) = 20 ∧ wln (k + 10) = 10 := by
  have hk := wlt (k := k) (by omega)
  have : ∀ k < 172, wkd k = 2 → (wfR k 8 = k + 10 ∧ wkd (k + 10) = 20 ∧ wln (k + 10) = 10) := by decide +kernel
  exact this k hk h
theorem wly_2_9 {k : Nat} (h : wkd k = 2) : wfR k 9 = k + 11 ∧ wkd (k + 11) = 20 ∧ wln (k + 11) = 10 := by
  have hk := wlt (k := k) (by omega)
  have : ∀ k < 172, wkd k = 2 → (wfR k 9 = k + 11 ∧ wkd (k + 11) = 20 ∧ wln (k + 11) = 10) := by decide +kernel
  exact this k hk h
theorem wly_7_0 {k : Nat} (h : wkd k = 7) : wfR k 0 = k + 1 ∧ wkd (k + 1) = 20 ∧ wln (k + 1) = 24 := by
  have hk := wlt (k := k) (by omega)
  have : ∀ k < 172, wkd k = 7 → (wfR k 0 = k + 1 ∧ wkd (k + 1) = 20 ∧ wln (k + 1) = 24) := by decide +kernel
  exact this k hk h
theorem wly_3_0 {k : Nat} (h : wkd k = 3) : wfR k 0 = k + 1 ∧ wkd (k + 1) = 20 ∧ wln (k + 1) = 400 := by
  have hk := wlt (k := k) (by omega)
  have : ∀ k < 172, wkd k = 3 → (wfR k 0 = k + 1 ∧ wkd (k + 1) = 20 ∧ wln (k + 1) = 400) := by decide +kernel
  exact this k hk h
theorem wly_3_2 {k : Nat} (h : wkd k = 3) : wfR k 2 = k + 2 ∧ wkd (k + 2) = 20 ∧ wln (k + 2) = 12 := by
  have hk := wlt (k := k) (by omega)
  have : ∀ k < 172, wkd k = 3 → (wfR k 2 = k + 2 ∧ wkd (k + 2) = 20 ∧ wln (k + 2) = 12) := by decide +kernel
  exact this k hk h
theorem wly_3_3 {k : Nat} (h : wkd k = 3) : wfR k 3 = k + 3 ∧ wkd (k + 3) = 20 ∧ wln (k + 3) = 12 := by
  have hk := wlt (k := k) (by omega)
  have : ∀ k < 172, wkd k = 3 → (wfR k 3 = k + 3 ∧ wkd (k + 3) = 20 ∧ wln (k + 3) = 12) := by decide +kernel
  exact this k hk h
theorem wly_3_4 {k : Nat} (h : wkd k = 3) : wfR k 4 = k + 4 ∧ wkd (k + 4) = 20 ∧ wln (k + 4) = 12 := by
  have hk := wlt (k := k) (by omega)
  have : ∀ k < 172, wkd k = 3 → (wfR k 4 = k + 4 ∧ wkd (k + 4) = 20 ∧ wln (k + 4) = 12) := by decide +kernel
  exact this k hk h
theorem wly_3_5 {k : Nat} (h : wkd k = 3) : wfR k 5 = k + 5 ∧ wkd (k + 5) = 20 ∧ wln (k + 5) = 12 := by
  have hk := wlt (k := k) (by omega)
  have : ∀ k < 172, wkd k = 3 → (wfR k 5 = k + 5 ∧ wkd (k + 5) = 20 ∧ wln (k + 5) = 12) := by decide +kernel
  exact this k hk h
theorem wly_3_7 {k : Nat} (h : wkd k = 3) : wfR k 7 = k + 6 ∧ wkd (k + 6) = 23 ∧ wln (k + 6) = 8 := by
  have hk := wlt (k := k) (by omega)
  have : ∀ k < 172, wkd k = 3 → (wfR k 7 = k + 6 ∧ wkd (k + 6) = 23 ∧ wln (k + 6) = 8) := by decide +kernel
  exact this k hk h
theorem wly_3_8 {k : Nat} (h : wkd k = 3) : wfR k 8 = k + 7 ∧ wkd (k + 7) = 23 ∧ wln (k + 7) = 61 := by
  have hk := wlt (k := k) (by omega)
  have : ∀ k < 172, wkd k = 3 → (wfR k 8 = k + 7 ∧ wkd (k + 7) = 23 ∧ wln (k + 7) = 61) := by decide +kernel
  exact this k hk h
theorem wly_3_10 {k : Nat} (h : wkd k = 3) : wfR k 10 = k + 8 ∧ wkd (k + 8) = 23 ∧ wln (k + 8) = 192 := by
  have hk := wlt (k := k) (by omega)
  have : ∀ k < 172, wkd k = 3 → (wfR k 10 = k + 8 ∧ wkd (k + 8) = 23 ∧ wln (k + 8) = 192) := by decide +kernel
  exact this k hk h
theorem wly_3_11 {k : Nat} (h : wkd k = 3) : wfR k 11 = k + 9 ∧ wkd (k + 9) = 20 ∧ wln (k + 9) = 192 := by
  have hk := wlt (k := k) (by omega)
  have : ∀ k < 172, wkd k = 3 → (wfR k 11 = k + 9 ∧ wkd (k + 9) = 20 ∧ wln (k + 9) = 192) := by decide +kernel
  exact this k hk h
end
