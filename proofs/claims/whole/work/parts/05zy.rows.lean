def z_RQ (a : Nat) : Prop := 101 ≤ z_kd a ∧ z_kd a ≤ 104 → z_rf a = fun _ => 0
theorem z_rq0 : z_RQ 0 := fun h => absurd h (by decide +kernel)
theorem z_rq1 : z_RQ 1 := fun _ => rfl
theorem z_rq2 : z_RQ 2 := fun _ => rfl
theorem z_rq3 : z_RQ 3 := fun _ => rfl
theorem z_rq4 : z_RQ 4 := fun _ => rfl
theorem z_rq5 : z_RQ 5 := fun _ => rfl
theorem z_rq6 : z_RQ 6 := fun _ => rfl
theorem z_rq7 : z_RQ 7 := fun h => absurd h (by decide +kernel)
theorem z_rq8 : z_RQ 8 := fun h => absurd h (by decide +kernel)
theorem z_rq9 : z_RQ 9 := fun h => absurd h (by decide +kernel)
theorem z_rq10 : z_RQ 10 := fun h => absurd h (by decide +kernel)
theorem z_rq11 : z_RQ 11 := fun h => absurd h (by decide +kernel)
theorem z_rq12 : z_RQ 12 := fun h => absurd h (by decide +kernel)
theorem z_rq13 : z_RQ 13 := fun h => absurd h (by decide +kernel)
theorem z_rq14 : z_RQ 14 := fun h => absurd h (by decide +kernel)
theorem z_rq15 : z_RQ 15 := fun h => absurd h (by decide +kernel)
theorem z_rq16 : z_RQ 16 := fun h => absurd h (by decide +kernel)
theorem z_rq17 : z_RQ 17 := fun h => absurd h (by decide +kernel)
theorem z_rq18 : z_RQ 18 := fun h => absurd h (by decide +kernel)
theorem z_rq19 : z_RQ 19 := fun h => absurd h (by decide +kernel)
theorem z_rq20 : z_RQ 20 := fun h => absurd h (by decide +kernel)
theorem z_rq21 : z_RQ 21 := fun h => absurd h (by decide +kernel)
theorem z_rq22 : z_RQ 22 := fun _ => rfl
theorem z_rq23 : z_RQ 23 := fun _ => rfl
theorem z_rq24 : z_RQ 24 := fun _ => rfl
theorem z_rq25 : z_RQ 25 := fun _ => rfl
theorem z_rq26 : z_RQ 26 := fun _ => rfl
theorem z_rq27 : z_RQ 27 := fun _ => rfl
theorem z_rq28 : z_RQ 28 := fun _ => rfl
theorem z_rq29 : z_RQ 29 := fun _ => rfl
theorem z_rq30 : z_RQ 30 := fun _ => rfl
theorem z_rq31 : z_RQ 31 := fun _ => rfl
theorem z_rq32 : z_RQ 32 := fun _ => rfl
theorem z_rq33 : z_RQ 33 := fun _ => rfl
theorem z_rq34 : z_RQ 34 := fun _ => rfl
theorem z_rq35 : z_RQ 35 := fun _ => rfl
theorem z_rq36 : z_RQ 36 := fun h => absurd h (by decide +kernel)
theorem z_rq37 : z_RQ 37 := fun h => absurd h (by decide +kernel)
theorem z_rq38 : z_RQ 38 := fun h => absurd h (by decide +kernel)
theorem z_rq39 : z_RQ 39 := fun _ => rfl
theorem z_rq40 : z_RQ 40 := fun _ => rfl
theorem z_rq41 : z_RQ 41 := fun _ => rfl
theorem z_rq42 : z_RQ 42 := fun _ => rfl
theorem z_rq43 : z_RQ 43 := fun h => absurd h (by decide +kernel)
theorem z_rq44 : z_RQ 44 := fun _ => rfl
theorem z_rq45 : z_RQ 45 := fun _ => rfl
theorem z_rq46 : z_RQ 46 := fun _ => rfl
theorem z_rq47 : z_RQ 47 := fun h => absurd h (by decide +kernel)
theorem z_rq48 : z_RQ 48 := fun h => absurd h (by decide +kernel)
theorem z_rq49 : z_RQ 49 := fun _ => rfl
theorem z_rq50 : z_RQ 50 := fun _ => rfl
theorem z_rq51 : z_RQ 51 := fun _ => rfl
theorem z_rq52 : z_RQ 52 := fun _ => rfl
theorem z_rq53 : z_RQ 53 := fun h => absurd h (by decide +kernel)
theorem z_rq54 : z_RQ 54 := fun h => absurd h (by decide +kernel)
theorem z_rq55 : z_RQ 55 := fun h => absurd h (by decide +kernel)
theorem z_rq56 : z_RQ 56 := fun _ => rfl
theorem z_rq57 : z_RQ 57 := fun _ => rfl
theorem z_rq58 : z_RQ 58 := fun _ => rfl
theorem z_rq59 : z_RQ 59 := fun _ => rfl
theorem z_rq60 : z_RQ 60 := fun h => absurd h (by decide +kernel)
theorem z_rq61 : z_RQ 61 := fun _ => rfl
theorem z_rq62 : z_RQ 62 := fun _ => rfl
theorem z_rq63 : z_RQ 63 := fun _ => rfl
theorem z_rq64 : z_RQ 64 := fun h => absurd h (by decide +kernel)
theorem z_rq65 : z_RQ 65 := fun h => absurd h (by decide +kernel)
theorem z_rq66 : z_RQ 66 := fun _ => rfl
theorem z_rq67 : z_RQ 67 := fun _ => rfl
theorem z_rq68 : z_RQ 68 := fun _ => rfl
theorem z_rq69 : z_RQ 69 := fun _ => rfl
theorem z_rq70 : z_RQ 70 := fun h => absurd h (by decide +kernel)
theorem z_rq71 : z_RQ 71 := fun h => absurd h (by decide +kernel)
theorem z_rq72 : z_RQ 72 := fun _ => rfl
theorem z_rq73 : z_RQ 73 := fun _ => rfl
theorem z_rq74 : z_RQ 74 := fun _ => rfl
theorem z_rq75 : z_RQ 75 := fun _ => rfl
theorem z_rq76 : z_RQ 76 := fun h => absurd h (by decide +kernel)
theorem z_rq77 : z_RQ 77 := fun _ => rfl
theorem z_rq78 : z_RQ 78 := fun _ => rfl
theorem z_rq79 : z_RQ 79 := fun _ => rfl
theorem z_rq80 : z_RQ 80 := fun h => absurd h (by decide +kernel)
theorem z_rq81 : z_RQ 81 := fun h => absurd h (by decide +kernel)
theorem z_rq82 : z_RQ 82 := fun _ => rfl
theorem z_rq83 : z_RQ 83 := fun _ => rfl
theorem z_rq84 : z_RQ 84 := fun _ => rfl
theorem z_rq85 : z_RQ 85 := fun _ => rfl
theorem z_rq86 : z_RQ 86 := fun _ => rfl
theorem z_rq87 : z_RQ 87 := fun h => absurd h (by decide +kernel)
theorem z_rq88 : z_RQ 88 := fun _ => rfl
theorem z_rq89 : z_RQ 89 := fun h => absurd h (by decide +kernel)
theorem z_rq90 : z_RQ 90 := fun _ => rfl
theorem z_rq91 : z_RQ 91 := fun _ => rfl
theorem z_rq92 : z_RQ 92 := fun _ => rfl
theorem z_rq93 : z_RQ 93 := fun _ => rfl
theorem z_rq94 : z_RQ 94 := fun h => absurd h (by decide +kernel)
theorem z_rq95 : z_RQ 95 := fun _ => rfl
theorem z_rq96 : z_RQ 96 := fun _ => rfl
theorem z_rq97 : z_RQ 97 := fun h => absurd h (by decide +kernel)
theorem z_rq98 : z_RQ 98 := fun _ => rfl
theorem z_rq99 : z_RQ 99 := fun _ => rfl
theorem z_rq100 : z_RQ 100 := fun h => absurd h (by decide +kernel)
theorem z_rq101 : z_RQ 101 := fun _ => rfl
theorem z_rq102 : z_RQ 102 := fun _ => rfl
theorem z_rq103 : z_RQ 103 := fun _ => rfl
theorem z_rq104 : z_RQ 104 := fun _ => rfl
theorem z_rq105 : z_RQ 105 := fun _ => rfl
theorem z_rq106 : z_RQ 106 := fun _ => rfl
theorem z_rq107 : z_RQ 107 := fun h => absurd h (by decide +kernel)
theorem z_rq108 : z_RQ 108 := fun _ => rfl
theorem z_rq109 : z_RQ 109 := fun _ => rfl
theorem z_rq110 : z_RQ 110 := fun _ => rfl
theorem z_rq111 : z_RQ 111 := fun _ => rfl
theorem z_rq112 : z_RQ 112 := fun _ => rfl
theorem z_rq113 : z_RQ 113 := fun _ => rfl
theorem z_rq114 : z_RQ 114 := fun _ => rfl
theorem z_rq115 : z_RQ 115 := fun _ => rfl
theorem z_rq116 : z_RQ 116 := fun _ => rfl
theorem z_rq117 : z_RQ 117 := fun h => absurd h (by decide +kernel)
theorem z_rq118 : z_RQ 118 := fun h => absurd h (by decide +kernel)
theorem z_rq119 : z_RQ 119 := fun h => absurd h (by decide +kernel)
theorem z_rq120 : z_RQ 120 := fun _ => rfl
theorem z_rq121 : z_RQ 121 := fun _ => rfl
theorem z_rq122 : z_RQ 122 := fun h => absurd h (by decide +kernel)
theorem z_rq123 : z_RQ 123 := fun h => absurd h (by decide +kernel)
theorem z_rq124 : z_RQ 124 := fun _ => rfl
theorem z_rq125 : z_RQ 125 := fun h => absurd h (by decide +kernel)
theorem z_rq126 : z_RQ 126 := fun _ => rfl
theorem z_rq127 : z_RQ 127 := fun _ => rfl
theorem z_rq128 : z_RQ 128 := fun _ => rfl
theorem z_rq129 : z_RQ 129 := fun _ => rfl
theorem z_rq130 : z_RQ 130 := fun _ => rfl
theorem z_rq131 : z_RQ 131 := fun _ => rfl
theorem z_rq132 : z_RQ 132 := fun _ => rfl
theorem z_rq133 : z_RQ 133 := fun _ => rfl
theorem z_rq134 : z_RQ 134 := fun h => absurd h (by decide +kernel)
theorem z_rq135 : z_RQ 135 := fun h => absurd h (by decide +kernel)
theorem z_rq136 : z_RQ 136 := fun _ => rfl
theorem z_rq137 : z_RQ 137 := fun _ => rfl
theorem z_rq138 : z_RQ 138 := fun _ => rfl
theorem z_rq139 : z_RQ 139 := fun _ => rfl
theorem z_rq140 : z_RQ 140 := fun _ => rfl
theorem z_rq141 : z_RQ 141 := fun h => absurd h (by decide +kernel)
theorem z_rq142 : z_RQ 142 := fun _ => rfl
theorem z_rq143 : z_RQ 143 := fun _ => rfl
theorem z_rq144 : z_RQ 144 := fun _ => rfl
theorem z_rq145 : z_RQ 145 := fun _ => rfl
theorem z_rq146 : z_RQ 146 := fun _ => rfl
theorem z_rq147 : z_RQ 147 := fun _ => rfl
theorem z_rq148 : z_RQ 148 := fun _ => rfl
theorem z_rq149 : z_RQ 149 := fun _ => rfl
theorem z_rq150 : z_RQ 150 := fun _ => rfl
theorem z_rq151 : z_RQ 151 := fun _ => rfl
theorem z_rq152 : z_RQ 152 := fun _ => rfl
theorem z_rq153 : z_RQ 153 := fun _ => rfl
theorem z_rq154 : z_RQ 154 := fun _ => rfl
theorem z_rq155 : z_RQ 155 := fun _ => rfl
theorem z_rq156 : z_RQ 156 := fun _ => rfl
theorem z_rq157 : z_RQ 157 := fun _ => rfl
theorem z_rq158 : z_RQ 158 := fun _ => rfl
theorem z_rq159 : z_RQ 159 := fun _ => rfl
theorem z_rq160 : z_RQ 160 := fun _ => rfl
theorem z_rq161 : z_RQ 161 := fun _ => rfl
theorem z_rq162 : z_RQ 162 := fun _ => rfl
theorem z_rq163 : z_RQ 163 := fun _ => rfl
theorem z_rq164 : z_RQ 164 := fun _ => rfl
theorem z_rq165 : z_RQ 165 := fun _ => rfl
theorem z_rq166 : z_RQ 166 := fun _ => rfl
theorem z_rq167 : z_RQ 167 := fun _ => rfl
theorem z_rq168 : z_RQ 168 := fun _ => rfl
theorem z_rqu0 : ∀ a, a < 0 → z_RQ a := lt_0
theorem z_rqu1 : ∀ a, a < 1 → z_RQ a := lt_s z_rqu0 z_rq0
theorem z_rqu2 : ∀ a, a < 2 → z_RQ a := lt_s z_rqu1 z_rq1
theorem z_rqu3 : ∀ a, a < 3 → z_RQ a := lt_s z_rqu2 z_rq2
theorem z_rqu4 : ∀ a, a < 4 → z_RQ a := lt_s z_rqu3 z_rq3
theorem z_rqu5 : ∀ a, a < 5 → z_RQ a := lt_s z_rqu4 z_rq4
theorem z_rqu6 : ∀ a, a < 6 → z_RQ a := lt_s z_rqu5 z_rq5
theorem z_rqu7 : ∀ a, a < 7 → z_RQ a := lt_s z_rqu6 z_rq6
theorem z_rqu8 : ∀ a, a < 8 → z_RQ a := lt_s z_rqu7 z_rq7
theorem z_rqu9 : ∀ a, a < 9 → z_RQ a := lt_s z_rqu8 z_rq8
theorem z_rqu10 : ∀ a, a < 10 → z_RQ a := lt_s z_rqu9 z_rq9
theorem z_rqu11 : ∀ a, a < 11 → z_RQ a := lt_s z_rqu10 z_rq10
theorem z_rqu12 : ∀ a, a < 12 → z_RQ a := lt_s z_rqu11 z_rq11
theorem z_rqu13 : ∀ a, a < 13 → z_RQ a := lt_s z_rqu12 z_rq12
theorem z_rqu14 : ∀ a, a < 14 → z_RQ a := lt_s z_rqu13 z_rq13
theorem z_rqu15 : ∀ a, a < 15 → z_RQ a := lt_s z_rqu14 z_rq14
theorem z_rqu16 : ∀ a, a < 16 → z_RQ a := lt_s z_rqu15 z_rq15
theorem z_rqu17 : ∀ a, a < 17 → z_RQ a := lt_s z_rqu16 z_rq16
theorem z_rqu18 : ∀ a, a < 18 → z_RQ a := lt_s z_rqu17 z_rq17
theorem z_rqu19 : ∀ a, a < 19 → z_RQ a := lt_s z_rqu18 z_rq18
theorem z_rqu20 : ∀ a, a < 20 → z_RQ a := lt_s z_rqu19 z_rq19
theorem z_rqu21 : ∀ a, a < 21 → z_RQ a := lt_s z_rqu20 z_rq20
theorem z_rqu22 : ∀ a, a < 22 → z_RQ a := lt_s z_rqu21 z_rq21
theorem z_rqu23 : ∀ a, a < 23 → z_RQ a := lt_s z_rqu22 z_rq22
theorem z_rqu24 : ∀ a, a < 24 → z_RQ a := lt_s z_rqu23 z_rq23
theorem z_rqu25 : ∀ a, a < 25 → z_RQ a := lt_s z_rqu24 z_rq24
theorem z_rqu26 : ∀ a, a < 26 → z_RQ a := lt_s z_rqu25 z_rq25
theorem z_rqu27 : ∀ a, a < 27 → z_RQ a := lt_s z_rqu26 z_rq26
theorem z_rqu28 : ∀ a, a < 28 → z_RQ a := lt_s z_rqu27 z_rq27
theorem z_rqu29 : ∀ a, a < 29 → z_RQ a := lt_s z_rqu28 z_rq28
theorem z_rqu30 : ∀ a, a < 30 → z_RQ a := lt_s z_rqu29 z_rq29
theorem z_rqu31 : ∀ a, a < 31 → z_RQ a := lt_s z_rqu30 z_rq30
theorem z_rqu32 : ∀ a, a < 32 → z_RQ a := lt_s z_rqu31 z_rq31
theorem z_rqu33 : ∀ a, a < 33 → z_RQ a := lt_s z_rqu32 z_rq32
theorem z_rqu34 : ∀ a, a < 34 → z_RQ a := lt_s z_rqu33 z_rq33
theorem z_rqu35 : ∀ a, a < 35 → z_RQ a := lt_s z_rqu34 z_rq34
theorem z_rqu36 : ∀ a, a < 36 → z_RQ a := lt_s z_rqu35 z_rq35
theorem z_rqu37 : ∀ a, a < 37 → z_RQ a := lt_s z_rqu36 z_rq36
theorem z_rqu38 : ∀ a, a < 38 → z_RQ a := lt_s z_rqu37 z_rq37
theorem z_rqu39 : ∀ a, a < 39 → z_RQ a := lt_s z_rqu38 z_rq38
theorem z_rqu40 : ∀ a, a < 40 → z_RQ a := lt_s z_rqu39 z_rq39
theorem z_rqu41 : ∀ a, a < 41 → z_RQ a := lt_s z_rqu40 z_rq40
theorem z_rqu42 : ∀ a, a < 42 → z_RQ a := lt_s z_rqu41 z_rq41
theorem z_rqu43 : ∀ a, a < 43 → z_RQ a := lt_s z_rqu42 z_rq42
theorem z_rqu44 : ∀ a, a < 44 → z_RQ a := lt_s z_rqu43 z_rq43
theorem z_rqu45 : ∀ a, a < 45 → z_RQ a := lt_s z_rqu44 z_rq44
theorem z_rqu46 : ∀ a, a < 46 → z_RQ a := lt_s z_rqu45 z_rq45
theorem z_rqu47 : ∀ a, a < 47 → z_RQ a := lt_s z_rqu46 z_rq46
theorem z_rqu48 : ∀ a, a < 48 → z_RQ a := lt_s z_rqu47 z_rq47
theorem z_rqu49 : ∀ a, a < 49 → z_RQ a := lt_s z_rqu48 z_rq48
theorem z_rqu50 : ∀ a, a < 50 → z_RQ a := lt_s z_rqu49 z_rq49
theorem z_rqu51 : ∀ a, a < 51 → z_RQ a := lt_s z_rqu50 z_rq50
theorem z_rqu52 : ∀ a, a < 52 → z_RQ a := lt_s z_rqu51 z_rq51
theorem z_rqu53 : ∀ a, a < 53 → z_RQ a := lt_s z_rqu52 z_rq52
theorem z_rqu54 : ∀ a, a < 54 → z_RQ a := lt_s z_rqu53 z_rq53
theorem z_rqu55 : ∀ a, a < 55 → z_RQ a := lt_s z_rqu54 z_rq54
theorem z_rqu56 : ∀ a, a < 56 → z_RQ a := lt_s z_rqu55 z_rq55
theorem z_rqu57 : ∀ a, a < 57 → z_RQ a := lt_s z_rqu56 z_rq56
theorem z_rqu58 : ∀ a, a < 58 → z_RQ a := lt_s z_rqu57 z_rq57
theorem z_rqu59 : ∀ a, a < 59 → z_RQ a := lt_s z_rqu58 z_rq58
theorem z_rqu60 : ∀ a, a < 60 → z_RQ a := lt_s z_rqu59 z_rq59
theorem z_rqu61 : ∀ a, a < 61 → z_RQ a := lt_s z_rqu60 z_rq60
theorem z_rqu62 : ∀ a, a < 62 → z_RQ a := lt_s z_rqu61 z_rq61
theorem z_rqu63 : ∀ a, a < 63 → z_RQ a := lt_s z_rqu62 z_rq62
theorem z_rqu64 : ∀ a, a < 64 → z_RQ a := lt_s z_rqu63 z_rq63
theorem z_rqu65 : ∀ a, a < 65 → z_RQ a := lt_s z_rqu64 z_rq64
theorem z_rqu66 : ∀ a, a < 66 → z_RQ a := lt_s z_rqu65 z_rq65
theorem z_rqu67 : ∀ a, a < 67 → z_RQ a := lt_s z_rqu66 z_rq66
theorem z_rqu68 : ∀ a, a < 68 → z_RQ a := lt_s z_rqu67 z_rq67
theorem z_rqu69 : ∀ a, a < 69 → z_RQ a := lt_s z_rqu68 z_rq68
theorem z_rqu70 : ∀ a, a < 70 → z_RQ a := lt_s z_rqu69 z_rq69
theorem z_rqu71 : ∀ a, a < 71 → z_RQ a := lt_s z_rqu70 z_rq70
theorem z_rqu72 : ∀ a, a < 72 → z_RQ a := lt_s z_rqu71 z_rq71
theorem z_rqu73 : ∀ a, a < 73 → z_RQ a := lt_s z_rqu72 z_rq72
theorem z_rqu74 : ∀ a, a < 74 → z_RQ a := lt_s z_rqu73 z_rq73
theorem z_rqu75 : ∀ a, a < 75 → z_RQ a := lt_s z_rqu74 z_rq74
theorem z_rqu76 : ∀ a, a < 76 → z_RQ a := lt_s z_rqu75 z_rq75
theorem z_rqu77 : ∀ a, a < 77 → z_RQ a := lt_s z_rqu76 z_rq76
theorem z_rqu78 : ∀ a, a < 78 → z_RQ a := lt_s z_rqu77 z_rq77
theorem z_rqu79 : ∀ a, a < 79 → z_RQ a := lt_s z_rqu78 z_rq78
theorem z_rqu80 : ∀ a, a < 80 → z_RQ a := lt_s z_rqu79 z_rq79
theorem z_rqu81 : ∀ a, a < 81 → z_RQ a := lt_s z_rqu80 z_rq80
theorem z_rqu82 : ∀ a, a < 82 → z_RQ a := lt_s z_rqu81 z_rq81
theorem z_rqu83 : ∀ a, a < 83 → z_RQ a := lt_s z_rqu82 z_rq82
theorem z_rqu84 : ∀ a, a < 84 → z_RQ a := lt_s z_rqu83 z_rq83
theorem z_rqu85 : ∀ a, a < 85 → z_RQ a := lt_s z_rqu84 z_rq84
theorem z_rqu86 : ∀ a, a < 86 → z_RQ a := lt_s z_rqu85 z_rq85
theorem z_rqu87 : ∀ a, a < 87 → z_RQ a := lt_s z_rqu86 z_rq86
theorem z_rqu88 : ∀ a, a < 88 → z_RQ a := lt_s z_rqu87 z_rq87
theorem z_rqu89 : ∀ a, a < 89 → z_RQ a := lt_s z_rqu88 z_rq88
theorem z_rqu90 : ∀ a, a < 90 → z_RQ a := lt_s z_rqu89 z_rq89
theorem z_rqu91 : ∀ a, a < 91 → z_RQ a := lt_s z_rqu90 z_rq90
theorem z_rqu92 : ∀ a, a < 92 → z_RQ a := lt_s z_rqu91 z_rq91
theorem z_rqu93 : ∀ a, a < 93 → z_RQ a := lt_s z_rqu92 z_rq92
theorem z_rqu94 : ∀ a, a < 94 → z_RQ a := lt_s z_rqu93 z_rq93
theorem z_rqu95 : ∀ a, a < 95 → z_RQ a := lt_s z_rqu94 z_rq94
theorem z_rqu96 : ∀ a, a < 96 → z_RQ a := lt_s z_rqu95 z_rq95
theorem z_rqu97 : ∀ a, a < 97 → z_RQ a := lt_s z_rqu96 z_rq96
theorem z_rqu98 : ∀ a, a < 98 → z_RQ a := lt_s z_rqu97 z_rq97
theorem z_rqu99 : ∀ a, a < 99 → z_RQ a := lt_s z_rqu98 z_rq98
theorem z_rqu100 : ∀ a, a < 100 → z_RQ a := lt_s z_rqu99 z_rq99
theorem z_rqu101 : ∀ a, a < 101 → z_RQ a := lt_s z_rqu100 z_rq100
theorem z_rqu102 : ∀ a, a < 102 → z_RQ a := lt_s z_rqu101 z_rq101
theorem z_rqu103 : ∀ a, a < 103 → z_RQ a := lt_s z_rqu102 z_rq102
theorem z_rqu104 : ∀ a, a < 104 → z_RQ a := lt_s z_rqu103 z_rq103
theorem z_rqu105 : ∀ a, a < 105 → z_RQ a := lt_s z_rqu104 z_rq104
theorem z_rqu106 : ∀ a, a < 106 → z_RQ a := lt_s z_rqu105 z_rq105
theorem z_rqu107 : ∀ a, a < 107 → z_RQ a := lt_s z_rqu106 z_rq106
theorem z_rqu108 : ∀ a, a < 108 → z_RQ a := lt_s z_rqu107 z_rq107
theorem z_rqu109 : ∀ a, a < 109 → z_RQ a := lt_s z_rqu108 z_rq108
theorem z_rqu110 : ∀ a, a < 110 → z_RQ a := lt_s z_rqu109 z_rq109
theorem z_rqu111 : ∀ a, a < 111 → z_RQ a := lt_s z_rqu110 z_rq110
theorem z_rqu112 : ∀ a, a < 112 → z_RQ a := lt_s z_rqu111 z_rq111
theorem z_rqu113 : ∀ a, a < 113 → z_RQ a := lt_s z_rqu112 z_rq112
theorem z_rqu114 : ∀ a, a < 114 → z_RQ a := lt_s z_rqu113 z_rq113
theorem z_rqu115 : ∀ a, a < 115 → z_RQ a := lt_s z_rqu114 z_rq114
theorem z_rqu116 : ∀ a, a < 116 → z_RQ a := lt_s z_rqu115 z_rq115
theorem z_rqu117 : ∀ a, a < 117 → z_RQ a := lt_s z_rqu116 z_rq116
theorem z_rqu118 : ∀ a, a < 118 → z_RQ a := lt_s z_rqu117 z_rq117
theorem z_rqu119 : ∀ a, a < 119 → z_RQ a := lt_s z_rqu118 z_rq118
theorem z_rqu120 : ∀ a, a < 120 → z_RQ a := lt_s z_rqu119 z_rq119
theorem z_rqu121 : ∀ a, a < 121 → z_RQ a := lt_s z_rqu120 z_rq120
theorem z_rqu122 : ∀ a, a < 122 → z_RQ a := lt_s z_rqu121 z_rq121
theorem z_rqu123 : ∀ a, a < 123 → z_RQ a := lt_s z_rqu122 z_rq122
theorem z_rqu124 : ∀ a, a < 124 → z_RQ a := lt_s z_rqu123 z_rq123
theorem z_rqu125 : ∀ a, a < 125 → z_RQ a := lt_s z_rqu124 z_rq124
theorem z_rqu126 : ∀ a, a < 126 → z_RQ a := lt_s z_rqu125 z_rq125
theorem z_rqu127 : ∀ a, a < 127 → z_RQ a := lt_s z_rqu126 z_rq126
theorem z_rqu128 : ∀ a, a < 128 → z_RQ a := lt_s z_rqu127 z_rq127
theorem z_rqu129 : ∀ a, a < 129 → z_RQ a := lt_s z_rqu128 z_rq128
theorem z_rqu130 : ∀ a, a < 130 → z_RQ a := lt_s z_rqu129 z_rq129
theorem z_rqu131 : ∀ a, a < 131 → z_RQ a := lt_s z_rqu130 z_rq130
theorem z_rqu132 : ∀ a, a < 132 → z_RQ a := lt_s z_rqu131 z_rq131
theorem z_rqu133 : ∀ a, a < 133 → z_RQ a := lt_s z_rqu132 z_rq132
theorem z_rqu134 : ∀ a, a < 134 → z_RQ a := lt_s z_rqu133 z_rq133
theorem z_rqu135 : ∀ a, a < 135 → z_RQ a := lt_s z_rqu134 z_rq134
theorem z_rqu136 : ∀ a, a < 136 → z_RQ a := lt_s z_rqu135 z_rq135
theorem z_rqu137 : ∀ a, a < 137 → z_RQ a := lt_s z_rqu136 z_rq136
theorem z_rqu138 : ∀ a, a < 138 → z_RQ a := lt_s z_rqu137 z_rq137
theorem z_rqu139 : ∀ a, a < 139 → z_RQ a := lt_s z_rqu138 z_rq138
theorem z_rqu140 : ∀ a, a < 140 → z_RQ a := lt_s z_rqu139 z_rq139
theorem z_rqu141 : ∀ a, a < 141 → z_RQ a := lt_s z_rqu140 z_rq140
theorem z_rqu142 : ∀ a, a < 142 → z_RQ a := lt_s z_rqu141 z_rq141
theorem z_rqu143 : ∀ a, a < 143 → z_RQ a := lt_s z_rqu142 z_rq142
theorem z_rqu144 : ∀ a, a < 144 → z_RQ a := lt_s z_rqu143 z_rq143
theorem z_rqu145 : ∀ a, a < 145 → z_RQ a := lt_s z_rqu144 z_rq144
theorem z_rqu146 : ∀ a, a < 146 → z_RQ a := lt_s z_rqu145 z_rq145
theorem z_rqu147 : ∀ a, a < 147 → z_RQ a := lt_s z_rqu146 z_rq146
theorem z_rqu148 : ∀ a, a < 148 → z_RQ a := lt_s z_rqu147 z_rq147
theorem z_rqu149 : ∀ a, a < 149 → z_RQ a := lt_s z_rqu148 z_rq148
theorem z_rqu150 : ∀ a, a < 150 → z_RQ a := lt_s z_rqu149 z_rq149
theorem z_rqu151 : ∀ a, a < 151 → z_RQ a := lt_s z_rqu150 z_rq150
theorem z_rqu152 : ∀ a, a < 152 → z_RQ a := lt_s z_rqu151 z_rq151
theorem z_rqu153 : ∀ a, a < 153 → z_RQ a := lt_s z_rqu152 z_rq152
theorem z_rqu154 : ∀ a, a < 154 → z_RQ a := lt_s z_rqu153 z_rq153
theorem z_rqu155 : ∀ a, a < 155 → z_RQ a := lt_s z_rqu154 z_rq154
theorem z_rqu156 : ∀ a, a < 156 → z_RQ a := lt_s z_rqu155 z_rq155
theorem z_rqu157 : ∀ a, a < 157 → z_RQ a := lt_s z_rqu156 z_rq156
theorem z_rqu158 : ∀ a, a < 158 → z_RQ a := lt_s z_rqu157 z_rq157
theorem z_rqu159 : ∀ a, a < 159 → z_RQ a := lt_s z_rqu158 z_rq158
theorem z_rqu160 : ∀ a, a < 160 → z_RQ a := lt_s z_rqu159 z_rq159
theorem z_rqu161 : ∀ a, a < 161 → z_RQ a := lt_s z_rqu160 z_rq160
theorem z_rqu162 : ∀ a, a < 162 → z_RQ a := lt_s z_rqu161 z_rq161
theorem z_rqu163 : ∀ a, a < 163 → z_RQ a := lt_s z_rqu162 z_rq162
theorem z_rqu164 : ∀ a, a < 164 → z_RQ a := lt_s z_rqu163 z_rq163
theorem z_rqu165 : ∀ a, a < 165 → z_RQ a := lt_s z_rqu164 z_rq164
theorem z_rqu166 : ∀ a, a < 166 → z_RQ a := lt_s z_rqu165 z_rq165
theorem z_rqu167 : ∀ a, a < 167 → z_RQ a := lt_s z_rqu166 z_rq166
theorem z_rqu168 : ∀ a, a < 168 → z_RQ a := lt_s z_rqu167 z_rq167
theorem z_rqu169 : ∀ a, a < 169 → z_RQ a := lt_s z_rqu168 z_rq168
